theorem mbit4 : ∀ mk, mk < 8 → ((nI mk &&& (4 : Int32)) = 0 ↔ mk.testBit 2 = false) := by decide +kernel
theorem mbit2 : ∀ mk, mk < 8 → ((nI mk &&& (2 : Int32)) = 0 ↔ mk.testBit 1 = false) := by decide +kernel
theorem mbit1 : ∀ mk, mk < 8 → ((nI mk &&& (1 : Int32)) = 0 ↔ mk.testBit 0 = false) := by decide +kernel
/-- the grid, new from p on -/
def gvT (T : SL) (s mk : Nat) (G : Nat → Nat) (p : Nat) : Prop := ∀ c, c < 169 → T 63 c = lN (if p ≤ c then dlN s mk G c else G c)
theorem deal_i {s mk dd o : Nat} {G : Nat → Nat} (hs : 1 ≤ s) (hs12 : s ≤ 12) (hmk : mk < 8) (hd : dd ≤ 12) (ho : o ≤ dd) (ke : SL → Option SL) : ∀ (t m : Nat) (T : SL), o + t ≤ dd + 1 → t < m → gvT T s mk G (13 * o + t) → ∃ T', f_X2_deal_14 (nI s) (nI mk) (nI o) ke m (nI t - 1) T = ke T' ∧ gvT T' s mk G (13 * o) := by
  intro t
  induction t with
  | zero =>
    intro m T _ hm h
    obtain ⟨q, rfl⟩ : ∃ q, m = q + 1 := ⟨m - 1, by omega⟩
    rw [f_X2_deal_14, if_pos (show nI 0 - 1 < (0 : Int32) by decide)]
    exact ⟨T, rfl, h⟩
  | succ t ih =>
    intro m T hot hm h
    obtain ⟨q, rfl⟩ : ∃ q, m = q + 1 := ⟨m - 1, by omega⟩
    have ht : t ≤ 12 := by omega
    have e13 : ∀ x : Nat, nI x * (13 : Int32) = nI (x * 13) := fun x => pk_mul x 13
    have hc1 : T 63 (o * 13 + t) = lN (G (o * 13 + t)) := by rw [h _ (by omega), if_neg (by omega)]
    have ed : (o * 13 + t) / 13 = o ∧ (o * 13 + t) % 13 = t := by omega
    rw [f_X2_deal_14, nI_pred, if_neg (show ¬ nI t < (0 : Int32) from nI_pos (by omega))]
    have fin : ∀ v : Int64, v = lN (dlN s mk G (o * 13 + t)) → ∃ T', f_X2_deal_108 T (nI o) (nI t) v (f_X2_deal_14 (nI s) (nI mk) (nI o) ke q) = ke T' ∧ gvT T' s mk G (13 * o) := fun v hv => by
      unfold f_X2_deal_108
      rw [e13, nI_add, inBn (show o * 13 + t < 169 by omega) (by omega), gd_t, nm_eq, ixn (by omega), show nI t + (-1 : Int32) = nI t - 1 by rw [Int32.sub_eq_add_neg]]
      refine ih q _ (by omega) (by omega) (fun c hc => ?_)
      by_cases c1 : c = o * 13 + t
      · rw [c1, up2_eq, if_pos (by omega), hv]
      · rw [up2_ne _ (by omega), h c hc]
        by_cases c2 : 13 * o + (t + 1) ≤ c
        · rw [if_pos c2, if_pos (by omega)]
        · rw [if_neg c2, if_neg (by omega)]
    have mid2 : ∀ x : Nat, x = (if mk.testBit 2 = true then G (o * 13 + t) else 0) + (if mk.testBit 0 = true ∧ s ≤ o then G (o * 13 + t - 13 * s) else 0) → ∃ T', f_X2_deal_76 T (nI s) (nI mk) (nI o) (nI t) (lN x) (f_X2_deal_14 (nI s) (nI mk) (nI o) ke q) = ke T' ∧ gvT T' s mk G (13 * o) := fun x hx => by
      have edl : dlN s mk G (o * 13 + t) = x + (if mk.testBit 1 = true ∧ s ≤ t then G (o * 13 + t - s) else 0) := by
        unfold dlN
        rw [ed.1, ed.2, hx]
      unfold f_X2_deal_76
      simp only [mbit2 mk hmk]
      cases hb : mk.testBit 1 with
      | false =>
        rw [if_pos rfl]
        refine fin _ ?_
        rw [edl, hb, if_neg (by simp), Nat.add_zero]
      | true =>
        rw [if_neg (by simp)]
        by_cases c : t < s
        · rw [if_pos (nI_lt c (by omega))]
          refine fin _ ?_
          rw [edl, if_neg (by omega), Nat.add_zero]
        · rw [if_neg (by rw [nI_ltI (by omega) (by omega)]; exact c), e13, nI_add, pk_sub (show s ≤ o * 13 + t by omega), inBn (show o * 13 + t - s < 169 by omega) (by omega), gd_t, nm_eq, ixn (by omega), h _ (by omega), if_neg (by omega), lN_add]
          refine fin _ ?_
          rw [edl, if_pos ⟨hb, by omega⟩]
    have mid1 : ∀ x : Nat, x = (if mk.testBit 2 = true then G (o * 13 + t) else 0) → ∃ T', f_X2_deal_42 T (nI s) (nI mk) (nI o) (nI t) (lN x) (f_X2_deal_14 (nI s) (nI mk) (nI o) ke q) = ke T' ∧ gvT T' s mk G (13 * o) := fun x hx => by
      unfold f_X2_deal_42
      simp only [mbit1 mk hmk]
      cases hb : mk.testBit 0 with
      | false =>
        rw [if_pos rfl]
        refine mid2 _ ?_
        rw [hb, if_neg (show ¬ (false = true ∧ s ≤ o) by simp), Nat.add_zero, hx]
      | true =>
        rw [if_neg (by simp)]
        by_cases c : o < s
        · rw [if_pos (nI_lt c (by omega))]
          refine mid2 _ ?_
          rw [if_neg (show ¬ (mk.testBit 0 = true ∧ s ≤ o) by omega), Nat.add_zero, hx]
        · rw [if_neg (by rw [nI_ltI (by omega) (by omega)]; exact c), pk_sub (show s ≤ o by omega), e13, nI_add, inBn (show (o - s) * 13 + t < 169 by omega) (by omega), gd_t, nm_eq, ixn (by omega), h _ (by omega), if_neg (by omega), lN_add]
          refine mid2 _ ?_
          rw [if_pos (show mk.testBit 0 = true ∧ s ≤ o from ⟨hb, by omega⟩), hx, show (o - s) * 13 + t = o * 13 + t - 13 * s by omega]
    simp only [mbit4 mk hmk]
    cases hb : mk.testBit 2 with
    | false =>
      rw [if_pos rfl]
      exact mid1 0 (by rw [hb]; rfl)
    | true =>
      rw [if_neg (by simp), e13, nI_add, inBn (show o * 13 + t < 169 by omega) (by omega), gd_t, ixn (by omega), hc1]
      exact mid1 _ (by rw [hb, if_pos rfl])
theorem deal_o {s mk dd d0 : Nat} {G : Nat → Nat} (hs : 1 ≤ s) (hd : dd ≤ 12) (hds : dd = d0 + s) (hmk : mk < 8) (hG : ∀ c, c < 169 → d0 < c / 13 + c % 13 → G c = 0) : ∀ (o m : Nat) (T : SL), o ≤ dd + 1 → o < m → gvT T s mk G (13 * o) → ∃ T', f_X2_deal_3 (nI s) (nI mk) (nI dd) m (nI o - 1) T = some T' ∧ gvT T' s mk G 0 := by
  intro o
  have hF := fu_big
  have hz : ∀ c, c < 169 → dd < c / 13 + c % 13 → dlN s mk G c = G c := fun c hc h => by
    rw [dl_supp (d := d0) hG c hc (by omega), hG c hc (by omega)]
  induction o with
  | zero =>
    intro m T _ hm h
    obtain ⟨q, rfl⟩ : ∃ q, m = q + 1 := ⟨m - 1, by omega⟩
    rw [f_X2_deal_3, if_pos (show nI 0 - 1 < (0 : Int32) by decide)]
    exact ⟨T, rfl, h⟩
  | succ o ih =>
    intro m T ho hm h
    obtain ⟨q, rfl⟩ : ∃ q, m = q + 1 := ⟨m - 1, by omega⟩
    rw [f_X2_deal_3, nI_pred, if_neg (show ¬ nI o < (0 : Int32) from nI_pos (by omega)), nm_eq, pk_sub (show o ≤ dd by omega)]
    obtain ⟨T1, a1, a2⟩ := deal_i (s := s) (mk := mk) (dd := dd) (o := o) (G := G) hs (by omega) hmk hd (by omega) (fun To => f_X2_deal_129 To (nI o) (f_X2_deal_3 (nI s) (nI mk) (nI dd) q)) (dd - o + 1) fu T (by omega) (by omega) (fun c hc => by
      rw [h c hc]
      by_cases c1 : 13 * (o + 1) ≤ c
      · rw [if_pos c1, if_pos (by omega)]
      · rw [if_neg c1]
        by_cases c2 : 13 * o + (dd - o + 1) ≤ c
        · rw [if_pos c2, hz c hc (by omega)]
        · rw [if_neg c2])
    rw [nI_pred] at a1
    rw [a1]
    unfold f_X2_deal_129
    rw [show nI o + (-1 : Int32) = nI o - 1 by rw [Int32.sub_eq_add_neg]]
    exact ih q T1 (by omega) (by omega) a2
theorem deal_C {s mk dd d0 : Nat} {G : Nat → Nat} {T : SL} (hs : 1 ≤ s) (hd : dd ≤ 12) (hds : dd = d0 + s) (hmk : mk < 8) (hG : ∀ c, c < 169 → d0 < c / 13 + c % 13 → G c = 0) (hT : ∀ c, c < 169 → T 63 c = lN (G c)) : ∃ T', f_X2_deal T (nI s) (nI mk) (nI dd) = some T' ∧ ∀ c, c < 169 → T' 63 c = lN (dlN s mk G c) := by
  have hF := fu_big
  unfold f_X2_deal
  obtain ⟨T', a1, a2⟩ := deal_o (s := s) (mk := mk) (dd := dd) (d0 := d0) (G := G) hs hd hds hmk hG (dd + 1) fu T (by omega) (by omega) (fun c hc => by
    by_cases c1 : 13 * (dd + 1) ≤ c
    · rw [if_pos c1, dl_supp (d := d0) hG c hc (by omega), hT c hc, hG c hc (by omega)]
    · rw [if_neg c1, hT c hc])
  rw [nI_pred] at a1
  exact ⟨T', a1, fun c hc => by rw [a2 c hc, if_pos (by omega)]⟩
theorem bnd_l {S : SI} {A : VW} (hV : HV A) (hC : HC S 1 A) {g : Nat} (hg : g < 12) : ∀ (d m k : Nat), k + d = A 0 0 → d < m → f_X1_boundTo_4 S (nI g) m (nI (seN (fun i => A 18 i == g) k)) (nI k) = some (nI (seN (fun i => A 18 i == g) (A 0 0))) := by
  intro d
  have hn := hV.1.1
  induction d with
  | zero =>
    intro m k hk hm
    obtain ⟨q, rfl⟩ : ∃ q, m = q + 1 := ⟨m - 1, by omega⟩
    rw [f_X1_boundTo_4, hC.1.1, if_pos (nI_le (by omega) (by omega)), show k = A 0 0 by omega]
  | succ d ih =>
    intro m k hk hm
    obtain ⟨q, rfl⟩ : ∃ q, m = q + 1 := ⟨m - 1, by omega⟩
    have hkn : k < A 0 0 := by omega
    have hb := (hV.2.2.2 k hkn).2.2.2.1
    obtain ⟨g0, g1, g2, g3, g4, g5, g6, g7, g8⟩ : skC (S (9 + k)) A k := hC.2.2.2 k hkn
    have i := ih q (k + 1) (by omega) (by omega)
    have e : seN (fun i => A 18 i == g) (k + 1) = seN (fun i => A 18 i == g) k ||| (if (A 18 k == g) = true then 2 ^ k else 0) := rfl
    rw [f_X1_boundTo_4, hC.1.1, if_neg (nI_ge (by omega) (by omega)), inBn (show k < 12 by omega) (by omega), gd_t, ixn (by omega), g8, nm_eq, shl1 (by omega), fa_or, nI_1]
    simp only [nI_eq (show A 18 k < 2 ^ 31 by omega) (show g < 2 ^ 31 by omega)]
    rw [e] at i
    by_cases c : A 18 k = g
    · rw [if_pos (by simp [c])] at i
      rw [if_pos c]
      exact i
    · rw [if_neg (by simp [c]), Nat.or_zero] at i
      rw [if_neg c]
      exact i
theorem and7 {x : Nat} (h : x ≤ 7) : x &&& 7 = x := by
  rw [show (7 : Nat) = 2 ^ 3 - 1 from rfl, Nat.and_two_pow_sub_one_eq_mod]
  omega
theorem own_l {S : SI} {A : VW} (hV : HV A) (hC : HC S 1 A) {g lod b : Nat} (v2 : Int32) (hb : b < 4096) (hbit : ∀ i, i < A 0 0 → b.testBit i = (A 18 i == g)) : ∀ (d m k : Nat), k + d = A 0 0 → d < m → f_X2_ownersOf_7 S (nI b) v2 (nI lod) m (nI (owN A v2 lod g k)) (nI k) = some (nI (owN A v2 lod g (A 0 0))) := by
  intro d
  have hn := hV.1.1
  induction d with
  | zero =>
    intro m k hk hm
    obtain ⟨q, rfl⟩ : ∃ q, m = q + 1 := ⟨m - 1, by omega⟩
    rw [f_X2_ownersOf_7, hC.1.1, if_pos (nI_le (by omega) (by omega)), show k = A 0 0 by omega]
  | succ d ih =>
    intro m k hk hm
    obtain ⟨q, rfl⟩ : ∃ q, m = q + 1 := ⟨m - 1, by omega⟩
    have hkn : k < A 0 0 := by omega
    obtain ⟨g0, g1, g2, g3, g4, g5, g6, g7, g8⟩ : skC (S (9 + k)) A k := hC.2.2.2 k hkn
    have i := ih q (k + 1) (by omega) (by omega)
    have e : owN A v2 lod g (k + 1) = owN A v2 lod g k &&& (if A 18 k = g then (if nI k = v2 then A 17 k &&& lod else A 17 k) else 7) := rfl
    rw [f_X2_ownersOf_7, hC.1.1, if_neg (nI_ge (by omega) (by omega)), bitI (by omega) (by omega), hbit k hkn, inBn (show k < 12 by omega) (by omega), gd_t, gd_t, ixn (by omega), g7]
    unfold f_X2_ownersOf_59
    simp only [nm_eq, nx_and, nI_1]
    rw [e] at i
    by_cases c : A 18 k = g
    · rw [if_pos c] at i
      rw [c, if_pos (show nI (if (g == g) = true then 1 else 0) = (1 : Int32) by simp; rfl)]
      by_cases c2 : nI k = v2
      · rw [if_pos c2] at i ⊢
        exact i
      · rw [if_neg c2] at i ⊢
        exact i
    · rw [if_neg c, and7 (ow_le A v2 lod g k)] at i
      rw [if_neg (show ¬ nI (if (A 18 k == g) = true then 1 else 0) = (1 : Int32) by simp [c]; decide)]
      exact i
