/-! socks: both read the same text -/
theorem fu_su : ∃ F, fu = F + 1 := ⟨fu - 1, by have := fu_big; omega⟩
theorem flt_all : (List.range 81).all (fun p => decide (((-20 : Int32) - nI p).toInt = -20 - (p : Int))) = true := by decide +kernel
theorem flt {p : Nat} (h : p ≤ 80) : ((-20 : Int32) - nI p).toInt = -20 - (p : Int) := of_decide_eq_true (List.all_eq_true.mp flt_all p (List.mem_range.mpr (by omega)))
theorem flt_n {p : Nat} (h : p ≤ 80) : ¬ (0 : Int32) ≤ (-20 : Int32) - nI p := by
  rw [le_toInt, flt h, show (0 : Int32).toInt = 0 from rfl]
  omega
theorem flt_z {p : Nat} (h : p ≤ 80) : ¬ (-20 : Int32) - nI p = 0 := fun e => flt_n h (by rw [e]; decide)
/-- both stand at place p of a text of t bytes -/
def tq (t : Nat) (S U : SI) (p : Nat) : Prop := (t ≤ 80 ∧ p ≤ t) ∧ S 41 1 = nI t ∧ U 78 2 = nI t ∧ S 41 2 = nI p ∧ U 78 3 = nI p ∧ ∀ j, j < t → S 42 j = U 80 j ∧ ∃ c, 32 ≤ c ∧ c ≤ 126 ∧ U 80 j = nI c
theorem tq.mv {t p p' : Nat} {S U S' U' : SI} (h : tq t S U p) (hp : p' ≤ t) (h1 : S' 41 2 = nI p') (h2 : U' 78 3 = nI p') (hc : S' 41 1 = S 41 1) (hc2 : S' 42 = S 42) (hm : U' 78 2 = U 78 2) (hm2 : U' 80 = U 80) : tq t S' U' p' := by
  obtain ⟨⟨q1, q2⟩, q3, q4, q5, q6, q7⟩ := h
  exact ⟨⟨q1, hp⟩, hc.trans q3, hm.trans q4, h1, h2, by rw [hc2, hm2]; exact q7⟩
theorem tq.st {t p p' : Nat} {S U : SI} (h : tq t S U p) (hp : p' ≤ t) : tq t (up2 S 41 2 (nI p')) (up2 U 78 3 (nI p')) p' :=
  h.mv hp (up2_eq _ _ _ _) (up2_eq _ _ _ _) (up2_ne _ (by omega)) (up2_row _ (by omega)) (up2_ne _ (by omega)) (up2_row _ (by omega))
theorem tq.uo {t p : Nat} {S U : SI} (h : tq t S U p) : tq t S (up2 U 78 3 (nI p)) p :=
  h.mv h.1.2 h.2.2.2.1 (up2_eq _ _ _ _) rfl rfl (up2_ne _ (by omega)) (up2_row _ (by omega))
theorem tq.u8 {t p j : Nat} {v : Int32} {S U : SI} (h : tq t S U p) : tq t S (up2 U 81 j v) p :=
  h.mv h.1.2 h.2.2.2.1 ((up2_ne _ (by omega)).trans h.2.2.2.2.1) rfl rfl (up2_ne _ (by omega)) (up2_row _ (by omega))
theorem tq.u4 {t p : Nat} {v : Int32} {S U : SI} (h : tq t S U p) : tq t S (up2 U 78 4 v) p :=
  h.mv h.1.2 h.2.2.2.1 ((up2_ne _ (by omega)).trans h.2.2.2.2.1) rfl rfl (up2_ne _ (by omega)) (up2_row _ (by omega))
theorem tq.sx {t p k : Nat} {S S' U : SI} (h : tq t S U p) (hs : ∀ a c, a ≠ 44 + k → S' a c = S a c) : tq t S' U p :=
  h.mv h.1.2 ((hs _ _ (by omega)).trans h.2.2.2.1) h.2.2.2.2.1 (hs _ _ (by omega)) (funext fun c => hs _ _ (by omega)) rfl rfl
/-- the next byte that is no blank, or the end -/
def nxR (t : Nat) (S U : SI) (c : Int32) (S' U' : SI) (p' : Nat) : Prop := tq t S' U' p' ∧ (∀ a k, ¬ (a = 41 ∧ k = 2) → S' a k = S a k) ∧ (∀ a k, ¬ (a = 78 ∧ k = 3) → U' a k = U a k) ∧ f_X6_nextSign S' = some (c, S') ∧ ((c = -1 ∧ p' = t) ∨ ∃ b, c = nI b ∧ 33 ≤ b ∧ b ≤ 126 ∧ p' < t ∧ S' 42 p' = nI b ∧ U' 80 p' = nI b)
theorem nxt_l {t : Nat} : ∀ (d m p : Nat) (S U : SI), p + d = t → d < m → tq t S U p → ∃ c S' U' p', f_X6_nextSign_0 (fun So => f_X6_nextSign_38 So) m S = some (c, S') ∧ f_X10_nextByte_0 (fun Uo => f_X10_nextByte_38 Uo) m U = some (c, U') ∧ nxR t S U c S' U' p' := by
  intro d
  induction d with
  | zero =>
    intro m p S U hp hm h
    obtain ⟨q, rfl⟩ : ∃ q, m = q + 1 := ⟨m - 1, by omega⟩
    obtain ⟨⟨q1, q2⟩, q3, q4, q5, q6, q7⟩ := id h
    have e : nI t ≤ nI p := nI_le (by omega) (by omega)
    have ec : ∀ m', f_X6_nextSign_0 (fun So => f_X6_nextSign_38 So) (m' + 1) S = some (-1, S) := fun m' => by
      rw [f_X6_nextSign_0, q3, q5, if_pos e]
      show f_X6_nextSign_38 S = _
      unfold f_X6_nextSign_38
      rw [q3, q5, if_pos e]
    have em : f_X10_nextByte_0 (fun Uo => f_X10_nextByte_38 Uo) (q + 1) U = some (-1, U) := by
      rw [f_X10_nextByte_0, q4, q6, if_pos e]
      show f_X10_nextByte_38 U = _
      unfold f_X10_nextByte_38
      rw [q4, q6, if_pos e]
    refine ⟨-1, S, U, p, ec q, em, h, fun _ _ _ => rfl, fun _ _ _ => rfl, ?_, Or.inl ⟨rfl, by omega⟩⟩
    obtain ⟨F, hF⟩ := fu_su
    unfold f_X6_nextSign
    rw [hF]
    exact ec F
  | succ d ih =>
    intro m p S U hp hm h
    obtain ⟨q, rfl⟩ : ∃ q, m = q + 1 := ⟨m - 1, by omega⟩
    obtain ⟨⟨q1, q2⟩, q3, q4, q5, q6, q7⟩ := id h
    obtain ⟨e1, b, b1, b2, e2⟩ := q7 p (by omega)
    have e : ¬ nI t ≤ nI p := nI_ge (by omega) (by omega)
    by_cases hb : b = 32
    · have eb : nI b = (32 : Int32) := by rw [hb]; rfl
      have ec : f_X6_nextSign_0 (fun So => f_X6_nextSign_38 So) (q + 1) S = f_X6_nextSign_0 (fun So => f_X6_nextSign_38 So) q (up2 S 41 2 (nI (p + 1))) := by
        rw [f_X6_nextSign_0, q3, q5, if_neg e, inBn (show p < 80 by omega) (by omega), gd_t, ixn (by omega), e1, e2, if_pos eb, nm_eq, nI_1]
      have em : f_X10_nextByte_0 (fun Uo => f_X10_nextByte_38 Uo) (q + 1) U = f_X10_nextByte_0 (fun Uo => f_X10_nextByte_38 Uo) q (up2 U 78 3 (nI (p + 1))) := by
        rw [f_X10_nextByte_0, q4, q6, if_neg e, inBn (show p < 80 by omega) (by omega), gd_t, ixn (by omega), e2, if_pos eb, nm_eq, nI_1]
      obtain ⟨c, S', U', p', a1, a2, a3, a4, a5, a6⟩ := ih q (p + 1) _ _ (by omega) (by omega) (h.st (p' := p + 1) (by omega))
      exact ⟨c, S', U', p', ec.trans a1, em.trans a2, a3, fun a k hk => by rw [a4 a k hk, up2_ne _ (by omega)], fun a k hk => by rw [a5 a k hk, up2_ne _ (by omega)], a6⟩
    · have eb : ¬ nI b = (32 : Int32) := by rw [show (32 : Int32) = nI 32 from rfl, nI_eq (by omega) (by omega)]; exact hb
      have ec : ∀ m', f_X6_nextSign_0 (fun So => f_X6_nextSign_38 So) (m' + 1) S = some (nI b, S) := fun m' => by
        rw [f_X6_nextSign_0, q3, q5, if_neg e, inBn (show p < 80 by omega) (by omega), gd_t, ixn (by omega), e1, e2, if_neg eb]
        show f_X6_nextSign_38 S = _
        unfold f_X6_nextSign_38
        rw [q3, q5, if_neg e, inBn (show p < 80 by omega) (by omega), gd_t, ixn (by omega), e1, e2]
      have em : f_X10_nextByte_0 (fun Uo => f_X10_nextByte_38 Uo) (q + 1) U = some (nI b, U) := by
        rw [f_X10_nextByte_0, q4, q6, if_neg e, inBn (show p < 80 by omega) (by omega), gd_t, ixn (by omega), e2, if_neg eb]
        show f_X10_nextByte_38 U = _
        unfold f_X10_nextByte_38
        rw [q4, q6, if_neg e, inBn (show p < 80 by omega) (by omega), gd_t, ixn (by omega), e2]
      refine ⟨nI b, S, U, p, ec q, em, h, fun _ _ _ => rfl, fun _ _ _ => rfl, ?_, Or.inr ⟨b, rfl, by omega, b2, by omega, e1.trans e2, e2⟩⟩
      obtain ⟨F, hF⟩ := fu_su
      unfold f_X6_nextSign
      rw [hF]
      exact ec F
theorem nxt_eq {t p : Nat} {S U : SI} (h : tq t S U p) : ∃ c S' U' p', f_X6_nextSign S = some (c, S') ∧ f_X10_nextByte U = some (c, U') ∧ nxR t S U c S' U' p' := by
  have h1 := h.1
  have hF := fu_big
  have e := nxt_l (t := t) (t - p) fu p S U (by omega) (by omega) h
  obtain ⟨c, S', U', p', a1, a2, a3⟩ := e
  refine ⟨c, S', U', p', ?_, ?_, a3⟩
  · unfold f_X6_nextSign
    exact a1
  · unfold f_X10_nextByte
    exact a2
theorem neg1 {b : Nat} (h : b < 2 ^ 31) : ¬ nI b = (-1 : Int32) := fun w => by
  have := congrArg Int32.toInt w
  rw [nI_toInt h, show (-1 : Int32).toInt = -1 from rfl] at this
  omega
theorem skp_eq {t p : Nat} {S U : SI} (h : tq t S U p) {b0 : Nat} (hb : b0 ≤ 126) : ∃ r S' U' p', f_X6_skipSign S (nI b0) = some (r, S') ∧ f_X10_takes U (nI b0) = some (r, U') ∧ (r = 0 ∨ r = 1) ∧ tq t S' U' p' ∧ (∀ a k, ¬ (a = 41 ∧ k = 2) → S' a k = S a k) ∧ (∀ a k, ¬ (a = 78 ∧ k = 3) → U' a k = U a k) := by
  obtain ⟨c, S1, U1, p1, a1, a2, a3, a4, a5, a6, a7⟩ := nxt_eq h
  unfold f_X6_skipSign f_X10_takes f_X10_takes_13 f_X10_takes_28
  rw [a1, a2, sb, sb]
  dsimp only
  by_cases e : c = nI b0
  · have hp : p1 < t := by
      rcases a7 with ⟨z, -⟩ | ⟨b, -, -, -, z, -⟩
      · exact absurd (e.symm.trans z) (neg1 (by omega))
      · exact z
    rw [if_pos e, if_pos e, if_neg (show ¬ (1 : Int32) = 0 by decide), nm_eq, nm_eq, show b01 (1 : Int32) = true from rfl, gd_t, a3.2.2.2.1, a3.2.2.2.2.1, nI_1]
    exact ⟨1, _, _, p1 + 1, rfl, rfl, Or.inr rfl, a3.st hp, fun a k hk => by rw [up2_ne _ (by omega), a4 a k hk], fun a k hk => by rw [up2_ne _ (by omega), a5 a k hk]⟩
  · rw [if_neg e, if_neg e, if_pos (show (0 : Int32) = 0 from rfl), nm_eq, show b01 (0 : Int32) = true from rfl, gd_t, a3.2.2.2.2.1, show nI p1 + (0 : Int32) = nI p1 from nI_add p1 0]
    exact ⟨0, S1, _, p1, rfl, rfl, Or.inl rfl, a3.uo, a4, fun a k hk => by rw [up2_ne _ (by omega), a5 a k hk]⟩
theorem knd_eq {t p : Nat} {S U : SI} (h : tq t S U p) : ∃ c S1 U1 p1, f_X10_nextByte U = some (c, U1) ∧ tq t S1 U1 p1 ∧ (∀ a k, ¬ (a = 41 ∧ k = 2) → S1 a k = S a k) ∧ (∀ a k, ¬ (a = 78 ∧ k = 3) → U1 a k = U a k) ∧ ((f_X6_readKind S = some ((-20 : Int32) - nI p1, S1) ∧ ¬ (0 ≤ (c - (97 : Int32)).toInt ∧ (c - (97 : Int32)).toInt ≤ 5)) ∨ (p1 < t ∧ ∃ k, k < 6 ∧ c - (97 : Int32) = nI k ∧ f_X6_readKind S = some (nI k, up2 S1 41 2 (nI (p1 + 1))))) := by
  obtain ⟨c, S1, U1, p1, a1, a2, a3, a4, a5, a6, a7⟩ := nxt_eq h
  refine ⟨c, S1, U1, p1, a2, a3, a4, a5, ?_⟩
  unfold f_X6_readKind
  rw [a1, sb]
  dsimp only
  rw [a3.2.2.2.1, nI_1, nm_eq]
  rcases a7 with ⟨rfl, -⟩ | ⟨b, rfl, b1, b2, b3, -, -⟩
  · exact Or.inl ⟨if_pos (by decide), by decide⟩
  · have es : (nI b - (97 : Int32)).toInt = (b : Int) - 97 := pk_sub_toInt (b := 97) (by omega) (by omega)
    rw [es]
    by_cases c1 : b < 97
    · exact Or.inl ⟨if_pos (nI_lt (b := 97) c1 (by omega)), by omega⟩
    · rw [if_neg (show ¬ nI b < (97 : Int32) by rw [lt_toInt, nI_toInt (by omega), show (97 : Int32).toInt = 97 from rfl]; omega)]
      by_cases c2 : b ≤ 102
      · rw [if_pos (show nI b ≤ (102 : Int32) from nI_le (b := 102) c2 (by omega))]
        have ek : nI b - (97 : Int32) = nI (b - 97) := pk_sub (b := 97) (by omega)
        exact Or.inr ⟨b3, b - 97, by omega, ek, by rw [ek]⟩
      · rw [if_neg (show ¬ nI b ≤ (102 : Int32) by rw [le_toInt, nI_toInt (by omega), show (102 : Int32).toInt = 102 from rfl]; omega)]
        exact Or.inl ⟨rfl, by omega⟩
theorem hnd_eq {t p : Nat} {S U : SI} (h : tq t S U p) : ∃ c S1 U1 p1, f_X10_nextByte U = some (c, U1) ∧ tq t S1 U1 p1 ∧ (∀ a k, ¬ (a = 41 ∧ k = 2) → S1 a k = S a k) ∧ (∀ a k, ¬ (a = 78 ∧ k = 3) → U1 a k = U a k) ∧ ((c = 108 ∧ p1 < t ∧ f_X6_readHand S = some (nI 0, up2 S1 41 2 (nI (p1 + 1)))) ∨ (c = 114 ∧ p1 < t ∧ f_X6_readHand S = some (nI 1, up2 S1 41 2 (nI (p1 + 1)))) ∨ (¬ c = 108 ∧ ¬ c = 114 ∧ f_X6_readHand S = some ((-20 : Int32) - nI p1, S1))) := by
  obtain ⟨c, S1, U1, p1, a1, a2, a3, a4, a5, a6, a7⟩ := nxt_eq h
  refine ⟨c, S1, U1, p1, a2, a3, a4, a5, ?_⟩
  have hp : ¬ c = -1 → p1 < t := fun hc => by
    rcases a7 with ⟨z, -⟩ | ⟨b, -, -, -, z, -⟩
    · exact absurd z hc
    · exact z
  unfold f_X6_readHand f_X6_skipSign
  rw [a1, sb]
  dsimp only
  rw [a3.2.2.2.1, nI_1, nm_eq]
  by_cases c1 : c = 108
  · refine Or.inl ⟨c1, hp (by rw [c1]; decide), ?_⟩
    rw [if_pos c1, sb]
    rfl
  · rw [if_neg c1, sb]
    dsimp only
    rw [if_pos rfl, a6, sb]
    dsimp only
    rw [a3.2.2.2.1, nI_1, nm_eq]
    by_cases c2 : c = 114
    · refine Or.inr (Or.inl ⟨c2, hp (by rw [c2]; decide), ?_⟩)
      rw [if_pos c2, sb]
      rfl
    · refine Or.inr (Or.inr ⟨c1, c2, ?_⟩)
      rw [if_neg c2, sb]
      dsimp only
      rw [if_pos rfl, a3.2.2.2.1]
theorem nod_eq {t p : Nat} {S U : SI} (h : tq t S U p) (hd : p = t ∨ ∃ b, p < t ∧ S 42 p = nI b ∧ U 80 p = nI b ∧ b ≤ 126 ∧ ¬ (48 ≤ b ∧ b ≤ 57)) (ke ke' : Int32 → SI → Option (Int32 × SI)) (m : Nat) (v w : Int32) : f_X6_readNumber_29 ke (m + 1) v S = ke v S ∧ f_X10_readNumber_13 ke' (m + 1) w U = ke' w U := by
  obtain ⟨⟨q1, q2⟩, q3, q4, q5, q6, -⟩ := h
  rw [f_X6_readNumber_29, f_X10_readNumber_13, q3, q4, q5, q6]
  rcases hd with rfl | ⟨b, hp, e1, e2, hb, hn⟩
  · rw [if_pos (nI_le (Nat.le_refl _) (by omega)), if_pos (nI_le (Nat.le_refl _) (by omega))]
    exact ⟨rfl, rfl⟩
  · rw [if_neg (nI_ge hp (by omega)), if_neg (nI_ge hp (by omega)), inBn (show p < 80 by omega) (by omega), ixn (by omega), e1, e2, in_gen, wide, nI_toInt (show b < 2 ^ 31 by omega), show (48 : Int64).toInt = 48 from rfl, show (57 : Int64).toInt = 57 from rfl, if_neg (show ¬ ((48 : Int) ≤ (b : Int) ∧ (b : Int) ≤ 57) by omega), sb, if_pos (show nI 0 = (0 : Int32) from rfl)]
    simp only [gd_t]
    refine ⟨?_, trivial⟩
    by_cases c1 : b < 48
    · rw [if_pos (show nI b < (48 : Int32) from nI_lt (b := 48) c1 (by omega))]
    · rw [if_neg (show ¬ nI b < (48 : Int32) by rw [lt_toInt, nI_toInt (by omega), show (48 : Int32).toInt = 48 from rfl]; omega), if_pos (show (57 : Int32) < nI b from nI_lt (a := 57) (by omega) (by omega))]
theorem mn100 {v b : Nat} (hv : v ≤ 9999) (hb : 48 ≤ b ∧ b ≤ 57) : mnI (100 : Int32) (((nI (min 100 v) * (10 : Int32)) + nI b) - (48 : Int32)) = nI (min 100 (10 * v + (b - 48))) := by
  rw [show nI (min 100 v) * (10 : Int32) = nI (min 100 v * 10) from pk_mul _ 10, nI_add, show nI (min 100 v * 10 + b) - (48 : Int32) = nI (min 100 v * 10 + b - 48) from pk_sub (b := 48) (by omega)]
  unfold mnI
  by_cases h : min 100 v * 10 + b - 48 < 100
  · rw [if_pos (show nI (min 100 v * 10 + b - 48) < (100 : Int32) from nI_lt (b := 100) h (by omega))]
    exact congrArg nI (by omega)
  · rw [if_neg (show ¬ nI (min 100 v * 10 + b - 48) < (100 : Int32) by rw [lt_toInt, nI_toInt (by omega), show (100 : Int32).toInt = 100 from rfl]; omega)]
    exact congrArg nI (show 100 = min 100 (10 * v + (b - 48)) by omega)
theorem num_l {t : Nat} (ke ke' : Int32 → SI → Option (Int32 × SI)) : ∀ (d m p v : Nat) (S U : SI), p + d = t → d < m → v ≤ 9999 → tq t S U p → ∃ v' p' S' U', f_X6_readNumber_29 ke m (nI (min 100 v)) S = ke (nI (min 100 v')) S' ∧ f_X10_readNumber_13 ke' m (nI v) U = ke' (nI v') U' ∧ tq t S' U' p' ∧ v' ≤ 9999 ∧ p ≤ p' ∧ (∀ a k, ¬ (a = 41 ∧ k = 2) → S' a k = S a k) ∧ (∀ a k, ¬ (a = 78 ∧ k = 3) → U' a k = U a k) ∧ (p' = p → ¬ ∃ b, p < t ∧ 48 ≤ b ∧ b ≤ 57 ∧ U 80 p = nI b) := by
  intro d
  induction d with
  | zero =>
    intro m p v S U hp hm hv h
    obtain ⟨q, rfl⟩ : ∃ q, m = q + 1 := ⟨m - 1, by omega⟩
    have e := nod_eq h (Or.inl (by omega)) ke ke' q (nI (min 100 v)) (nI v)
    exact ⟨v, p, S, U, e.1, e.2, h, hv, Nat.le_refl _, fun _ _ _ => rfl, fun _ _ _ => rfl, fun _ ⟨b, z, _⟩ => by omega⟩
  | succ d ih =>
    intro m p v S U hp hm hv h
    obtain ⟨q, rfl⟩ : ∃ q, m = q + 1 := ⟨m - 1, by omega⟩
    obtain ⟨⟨q1, q2⟩, q3, q4, q5, q6, q7⟩ := id h
    obtain ⟨e1, b, b1, b2, e2⟩ := q7 p (by omega)
    by_cases hb : 48 ≤ b ∧ b ≤ 57
    · have e : ¬ nI t ≤ nI p := nI_ge (by omega) (by omega)
      have ec : f_X6_readNumber_29 ke (q + 1) (nI (min 100 v)) S = f_X6_readNumber_29 ke q (nI (min 100 (10 * v + (b - 48)))) (up2 S 41 2 (nI (p + 1))) := by
        rw [f_X6_readNumber_29, q3, q5, if_neg e, inBn (show p < 80 by omega) (by omega), gd_t, gd_t, gd_t, ixn (by omega), e1, e2, if_neg (show ¬ nI b < (48 : Int32) by rw [lt_toInt, nI_toInt (by omega), show (48 : Int32).toInt = 48 from rfl]; omega), if_neg (show ¬ (57 : Int32) < nI b by rw [lt_toInt, nI_toInt (by omega), show (57 : Int32).toInt = 57 from rfl]; omega), nm_eq, nm_eq, nI_1, mn100 hv hb]
      have hin : f_X10_in (nI b).toInt64 (48 : Int64) (57 : Int64) = some (nI 1) := by
        rw [in_gen, wide, nI_toInt (show b < 2 ^ 31 by omega), show (48 : Int64).toInt = 48 from rfl, show (57 : Int64).toInt = 57 from rfl, if_pos (show ((48 : Int) ≤ (b : Int) ∧ (b : Int) ≤ 57) by omega)]
      have em : ∃ v1, v1 ≤ 9999 ∧ min 100 (10 * v + (b - 48)) = min 100 v1 ∧ f_X10_readNumber_13 ke' (q + 1) (nI v) U = f_X10_readNumber_13 ke' q (nI v1) (up2 U 78 3 (nI (p + 1))) := by
        by_cases c : v ≤ 999
        · refine ⟨10 * v + (b - 48), by omega, rfl, ?_⟩
          rw [f_X10_readNumber_13, q4, q6, if_neg e, inBn (show p < 80 by omega) (by omega), gd_t, gd_t, ixn (by omega), e2, hin, sb, if_neg (show ¬ nI 1 = (0 : Int32) by decide), if_pos (show nI v ≤ (999 : Int32) from nI_le (b := 999) c (by omega))]
          unfold f_X10_readNumber_77
          rw [nm_eq, q6, nI_1, show (10 : Int32) * nI v = nI (10 * v) from pk_mul 10 v, nI_add, show nI (10 * v + b) - (48 : Int32) = nI (10 * v + b - 48) from pk_sub (b := 48) (by omega), show 10 * v + b - 48 = 10 * v + (b - 48) by omega]
        · refine ⟨v, hv, by omega, ?_⟩
          rw [f_X10_readNumber_13, q4, q6, if_neg e, inBn (show p < 80 by omega) (by omega), gd_t, gd_t, ixn (by omega), e2, hin, sb, if_neg (show ¬ nI 1 = (0 : Int32) by decide), if_neg (show ¬ nI v ≤ (999 : Int32) by rw [le_toInt, nI_toInt (by omega), show (999 : Int32).toInt = 999 from rfl]; omega)]
          unfold f_X10_readNumber_77
          rw [nm_eq, q6, nI_1]
      obtain ⟨v1, w1, w2, em⟩ := em
      rw [w2] at ec
      obtain ⟨v', p', S', U', a1, a2, a3, a4, a5, a6, a7, -⟩ := ih q (p + 1) v1 _ _ (by omega) (by omega) w1 (h.st (p' := p + 1) (by omega))
      exact ⟨v', p', S', U', ec.trans a1, em.trans a2, a3, a4, by omega, fun a k hk => by rw [a6 a k hk, up2_ne _ (by omega)], fun a k hk => by rw [a7 a k hk, up2_ne _ (by omega)], fun z => by omega⟩
    · have e := nod_eq h (Or.inr ⟨b, by omega, e1.trans e2, e2, b2, hb⟩) ke ke' q (nI (min 100 v)) (nI v)
      refine ⟨v, p, S, U, e.1, e.2, h, hv, Nat.le_refl _, fun _ _ _ => rfl, fun _ _ _ => rfl, fun _ ⟨b', z1, z2, z3, z4⟩ => ?_⟩
      have := (nI_eq (by omega) (by omega)).mp (e2.symm.trans z4)
      omega
theorem num_eq {t p lo : Nat} {S U : SI} (h : tq t S U p) (hlo : lo ≤ 99) : ∃ S' U', (∀ a k, ¬ (a = 41 ∧ k = 2) → S' a k = S a k) ∧ (∀ a k, ¬ (a = 78 ∧ k = 3) → U' a k = U a k) ∧ ((∃ n p', lo ≤ n ∧ n ≤ 99 ∧ f_X6_readNumber S (nI lo) = some (nI n, S') ∧ f_X10_readNumber U (nI lo) (99 : Int32) = some (nI n, U') ∧ tq t S' U' p') ∨ (∃ p', p' ≤ 80 ∧ f_X6_readNumber S (nI lo) = some ((-20 : Int32) - nI p', S') ∧ f_X10_readNumber U (nI lo) (99 : Int32) = some ((-1 : Int32), U') ∧ U' 78 3 = nI p')) := by
  obtain ⟨c, S1, U1, p1, a1, a2, a3, a4, a5, a6, a7⟩ := nxt_eq h
  have hF := fu_big
  have h80 := a3.1
  unfold f_X6_readNumber f_X10_readNumber f_X6_readNumber_27
  rw [a1, a2, sb, sb]
  dsimp only
  rw [a3.2.2.2.1, a3.2.2.2.2.1, nm_eq, nm_eq]
  by_cases hd : ∃ b, c = nI b ∧ 48 ≤ b ∧ b ≤ 57
  · obtain ⟨b, rfl, hb1, hb2⟩ := hd
    rw [if_neg (show ¬ nI b < (48 : Int32) by rw [lt_toInt, nI_toInt (by omega), show (48 : Int32).toInt = 48 from rfl]; omega), if_neg (show ¬ (57 : Int32) < nI b by rw [lt_toInt, nI_toInt (by omega), show (57 : Int32).toInt = 57 from rfl]; omega)]
    have hat : p1 < t ∧ U1 80 p1 = nI b := by
      rcases a7 with ⟨z, -⟩ | ⟨b', z0, z1, z2, z3, z4, z5⟩
      · exact absurd z (neg1 (by omega))
      · exact ⟨z3, z5.trans z0.symm⟩
    obtain ⟨v', p', S', U', k1, k2, k3, k4, k5, k6, k7, k8⟩ := num_l (t := t) (fun o4 So => f_X6_readNumber_106 So (nI lo) (nI p1) o4) (fun o4 Uo => f_X10_readNumber_92 Uo (nI lo) (99 : Int32) (nI p1) o4) (t - p1) fu p1 0 S1 U1 (by omega) (by omega) (by omega) a3
    rw [show (0 : Int32) = nI (min 100 0) from rfl, k1]
    rw [show nI (min 100 0) = nI 0 from rfl, k2]
    have hpp : ¬ p' = p1 := fun z => k8 z ⟨b, hat.1, hb1, hb2, hat.2⟩
    have hp80 := k3.1
    unfold f_X6_readNumber_106 f_X6_readNumber_119 f_X10_readNumber_92
    rw [k3.2.2.2.2.1, if_neg (show ¬ nI p' = nI p1 by rw [nI_eq (by omega) (by omega)]; exact hpp), in_gen, wide, wide, wide, nI_toInt (show v' < 2 ^ 31 by omega), nI_toInt (show lo < 2 ^ 31 by omega), show (99 : Int32).toInt = 99 from rfl, sb]
    by_cases c1 : lo ≤ v' ∧ v' ≤ 99
    · rw [if_pos (show (lo : Int) ≤ (v' : Int) ∧ (v' : Int) ≤ 99 by omega), if_neg (show ¬ nI 1 = (0 : Int32) by decide), show min 100 v' = v' by omega, if_neg (show ¬ nI v' < nI lo by rw [lt_toInt, nI_toInt (by omega), nI_toInt (by omega)]; omega), if_pos (show nI v' ≤ (99 : Int32) from nI_le (b := 99) c1.2 (by omega))]
      exact ⟨S', U', fun a k hk => by rw [k6 a k hk, a4 a k hk], fun a k hk => by rw [k7 a k hk, a5 a k hk], Or.inl ⟨v', p', c1.1, c1.2, rfl, rfl, k3⟩⟩
    · rw [if_neg (show ¬ ((lo : Int) ≤ (v' : Int) ∧ (v' : Int) ≤ 99) by omega), if_pos (show nI 0 = (0 : Int32) from rfl), nm_eq]
      have ec : (if nI (min 100 v') < nI lo then some ((-20 : Int32) - nI p1, S') else if nI (min 100 v') ≤ (99 : Int32) then some (nI (min 100 v'), S') else some ((-20 : Int32) - nI p1, S')) = some ((-20 : Int32) - nI p1, S') := by
        by_cases c2 : v' < lo
        · rw [if_pos (nI_lt (show min 100 v' < lo by omega) (by omega))]
        · rw [if_neg (show ¬ nI (min 100 v') < nI lo by rw [lt_toInt, nI_toInt (by omega), nI_toInt (by omega)]; omega), if_neg (show ¬ nI (min 100 v') ≤ (99 : Int32) by rw [le_toInt, nI_toInt (by omega), show (99 : Int32).toInt = 99 from rfl]; omega)]
      rw [ec]
      exact ⟨S', _, fun a k hk => by rw [k6 a k hk, a4 a k hk], fun a k hk => by rw [up2_ne _ (by omega), k7 a k hk, a5 a k hk], Or.inr ⟨p1, by omega, rfl, rfl, up2_eq _ _ _ _⟩⟩
  · have hnd : p1 = t ∨ ∃ b, p1 < t ∧ S1 42 p1 = nI b ∧ U1 80 p1 = nI b ∧ b ≤ 126 ∧ ¬ (48 ≤ b ∧ b ≤ 57) := by
      rcases a7 with ⟨-, z⟩ | ⟨b', z0, z1, z2, z3, z4, z5⟩
      · exact Or.inl z
      · exact Or.inr ⟨b', z3, z4, z5, z2, fun w => hd ⟨b', z0, w.1, w.2⟩⟩
    obtain ⟨F, hFS⟩ := fu_su
    have e := nod_eq a3 hnd (fun o4 So => f_X6_readNumber_106 So (nI lo) (nI p1) o4) (fun o4 Uo => f_X10_readNumber_92 Uo (nI lo) (99 : Int32) (nI p1) o4) F (-1) 0
    rw [hFS]
    have ec : f_X6_readNumber_106 S1 (nI lo) (nI p1) (-1) = some ((-20 : Int32) - nI p1, S1) := by
      unfold f_X6_readNumber_106 f_X6_readNumber_119
      rw [if_pos (show (-1 : Int32) < nI lo by rw [lt_toInt, nI_toInt (by omega), show (-1 : Int32).toInt = -1 from rfl]; omega)]
    have em : f_X10_readNumber_92 U1 (nI lo) (99 : Int32) (nI p1) 0 = some ((-1 : Int32), U1) := by
      unfold f_X10_readNumber_92
      rw [if_pos a3.2.2.2.2.1]
    refine ⟨S1, U1, a4, a5, Or.inr ⟨p1, by omega, ?_, e.2.trans em, a3.2.2.2.2.1⟩⟩
    rcases a7 with ⟨z, -⟩ | ⟨b', z0, z1, z2, z3, z4, z5⟩
    · rw [z, if_pos (show (-1 : Int32) < (48 : Int32) by decide)]
      exact e.1.trans ec
    · by_cases c1 : b' < 48
      · rw [if_pos (show c < (48 : Int32) by rw [z0]; exact nI_lt (b := 48) c1 (by omega))]
        exact e.1.trans ec
      · rw [if_neg (show ¬ c < (48 : Int32) by rw [z0, lt_toInt, nI_toInt (by omega), show (48 : Int32).toInt = 48 from rfl]; omega), if_pos (show (57 : Int32) < c by rw [z0]; exact nI_lt (a := 57) (Nat.lt_of_not_le fun w => hd ⟨b', z0, by omega, w⟩) (by omega))]
        exact e.1.trans ec
