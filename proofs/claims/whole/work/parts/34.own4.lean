theorem sz_l {U : SI} {A : VW} (hV : HV A) (hM : HM (U 79) A) {g : Nat} (hg : g < 12) : ∀ (d m k : Nat), k + d = A 0 0 → d < m → f_X10_sizeOf_4 U (nI g) m (nI (fb_ct (fun i => A 18 i == g) k)) (nI k) = some (nI (szN A g)) := by
  intro d
  have hn := hV.1.1
  induction d with
  | zero =>
    intro m k hk hm
    obtain ⟨q, rfl⟩ : ∃ q, m = q + 1 := ⟨m - 1, by omega⟩
    rw [f_X10_sizeOf_4, show inB (0 : Int32) 205 = true from rfl, gd_t, show ix (0 : Int32) = 0 from rfl, hM.1.1, if_pos (nI_le (by omega) (by omega)), show k = A 0 0 by omega]
    rfl
  | succ d ih =>
    intro m k hk hm
    obtain ⟨q, rfl⟩ : ∃ q, m = q + 1 := ⟨m - 1, by omega⟩
    have hkn : k < A 0 0 := by omega
    have hb := (hV.2.2.2 k hkn).2.2.2.1
    have g9 : U 79 (13 + 10 * k + 9) = nI (A 18 k) := (hM.2.2.2 k hkn).2.2.2.2.2.2.2.2.2
    have i := ih q (k + 1) (by omega) (by omega)
    have e : fb_ct (fun i => A 18 i == g) (k + 1) = fb_ct (fun i => A 18 i == g) k + (if (A 18 k == g) = true then 1 else 0) := rfl
    rw [f_X10_sizeOf_4, show inB (0 : Int32) 205 = true from rfl, gd_t, show ix (0 : Int32) = 0 from rfl, hM.1.1, if_neg (nI_ge (by omega) (by omega)), of9 (by omega), sb, g9]
    unfold f_X10_sizeOf_31
    simp only [nm_eq, nI_1, show ∀ x : Nat, nI x + (0 : Int32) = nI x from fun x => nI_add x 0, nI_eq (show A 18 k < 2 ^ 31 by omega) (show g < 2 ^ 31 by omega)]
    rw [e] at i
    by_cases c : A 18 k = g
    · rw [if_pos (by simp [c])] at i
      rw [if_pos c]
      exact i
    · rw [if_neg (by simp [c])] at i
      rw [if_neg c]
      exact i
theorem may_l {U : SI} {A : VW} (hV : HV A) (hM : HM (U 79) A) {g lod : Nat} (hg : g < 12) (v2 : Int32) : ∀ (d m k : Nat), k + d = A 0 0 → d < m → f_X10_mayOf_7 U (nI g) v2 (nI lod) m (nI (owN A v2 lod g k)) (nI k) = some (nI (owN A v2 lod g (A 0 0))) := by
  intro d
  have hn := hV.1.1
  induction d with
  | zero =>
    intro m k hk hm
    obtain ⟨q, rfl⟩ : ∃ q, m = q + 1 := ⟨m - 1, by omega⟩
    rw [f_X10_mayOf_7, show inB (0 : Int32) 205 = true from rfl, gd_t, show ix (0 : Int32) = 0 from rfl, hM.1.1, if_pos (nI_le (by omega) (by omega)), show k = A 0 0 by omega]
  | succ d ih =>
    intro m k hk hm
    obtain ⟨q, rfl⟩ : ∃ q, m = q + 1 := ⟨m - 1, by omega⟩
    have hkn : k < A 0 0 := by omega
    have hb := (hV.2.2.2 k hkn).2.2.2.1
    have hm7 := (hV.2.2.2 k hkn).2.2.1.2
    have g9 : U 79 (13 + 10 * k + 9) = nI (A 18 k) := (hM.2.2.2 k hkn).2.2.2.2.2.2.2.2.2
    have g8 : U 79 (13 + 10 * k + 8) = nI (A 17 k) := (hM.2.2.2 k hkn).2.2.2.2.2.2.2.2.1
    have i := ih q (k + 1) (by omega) (by omega)
    have e : owN A v2 lod g (k + 1) = owN A v2 lod g k &&& (if A 18 k = g then (if nI k = v2 then A 17 k &&& lod else A 17 k) else 7) := rfl
    rw [f_X10_mayOf_7, show inB (0 : Int32) 205 = true from rfl, gd_t, show ix (0 : Int32) = 0 from rfl, hM.1.1, if_neg (nI_ge (by omega) (by omega)), of9 (by omega), sb, g9, of8 (by omega), sb, g8]
    unfold f_X10_mayOf_52 f_X10_mayOf_58
    rw [show (7 : Int32) = nI 7 from rfl]
    simp only [nm_eq, nI_1, nx_and, and7 hm7, nI_eq (show A 18 k < 2 ^ 31 by omega) (show g < 2 ^ 31 by omega)]
    rw [e] at i
    by_cases c : A 18 k = g
    · rw [if_pos c] at i ⊢
      by_cases c2 : nI k = v2
      · rw [if_pos c2] at i ⊢
        exact i
      · rw [if_neg c2] at i ⊢
        exact i
    · rw [if_neg c] at i ⊢
      exact i
theorem gm0_l {A : VW} {kd : Nat} {v2 : Int32} {lod : Nat} (ke : SL → Option (Int64 × SL)) : ∀ (d m k : Nat) (V : SL), k + d = 169 → d < m → (∀ c, c < k → V 88 c = lN (grN A kd v2 lod 0 c)) → ∃ V', f_X10_waysOf_3 ke m (nI k) V = ke V' ∧ ∀ c, c < 169 → V' 88 c = lN (grN A kd v2 lod 0 c) := by
  intro d
  induction d with
  | zero =>
    intro m k T hk hm h
    obtain ⟨q, rfl⟩ : ∃ q, m = q + 1 := ⟨m - 1, by omega⟩
    rw [f_X10_waysOf_3, if_pos (show (169 : Int32) ≤ nI k from nI_le (a := 169) (by omega) (by omega))]
    exact ⟨T, rfl, fun e he => h e (by omega)⟩
  | succ d ih =>
    intro m k T hk hm h
    obtain ⟨q, rfl⟩ : ∃ q, m = q + 1 := ⟨m - 1, by omega⟩
    rw [f_X10_waysOf_3, if_neg (show ¬ (169 : Int32) ≤ nI k from nI_ge (b := 169) (by omega) (by omega))]
    unfold f_X10_waysOf_27
    rw [inBn (show k < 169 by omega) (by omega), gd_t, gd_t, nm_eq, nm_eq, ixn (by omega), nI_1]
    simp only [show (nI k = (0 : Int32)) = (k = 0) from propext (nI_eq (b := 0) (by omega) (by omega))]
    have hs : ∀ v, v = lN (grN A kd v2 lod 0 k) → ∃ T', f_X10_waysOf_3 ke q (nI (k + 1)) (up2 T 88 k v) = ke T' ∧ ∀ e, e < 169 → T' 88 e = lN (grN A kd v2 lod 0 e) := fun v hv => ih q (k + 1) _ (by omega) (by omega) (fun e he => by
      by_cases e2 : e = k
      · rw [e2, up2_eq, hv]
      · rw [up2_ne _ (by omega)]; exact h e (by omega))
    by_cases c : k = 0
    · rw [if_pos c]
      exact hs 1 (by rw [c]; rfl)
    · rw [if_neg c]
      refine hs 0 ?_
      show _ = lN (if k = 0 then 1 else 0)
      rw [if_neg c]
      rfl
theorem th0_l (ke : SL → Option (Int64 × SL)) : ∀ (d m k : Nat) (V : SL), k + d = 169 → d < m → (∀ c, c < k → V 89 c = lN 0) → ∃ V', f_X10_waysOf_95 ke m (nI k) V = ke V' ∧ (∀ c, c < 169 → V' 89 c = lN 0) ∧ ∀ c, V' 88 c = V 88 c := by
  intro d
  induction d with
  | zero =>
    intro m k T hk hm h
    obtain ⟨q, rfl⟩ : ∃ q, m = q + 1 := ⟨m - 1, by omega⟩
    rw [f_X10_waysOf_95, if_pos (show (169 : Int32) ≤ nI k from nI_le (a := 169) (by omega) (by omega))]
    exact ⟨T, rfl, fun e he => h e (by omega), fun _ => rfl⟩
  | succ d ih =>
    intro m k T hk hm h
    obtain ⟨q, rfl⟩ : ∃ q, m = q + 1 := ⟨m - 1, by omega⟩
    rw [f_X10_waysOf_95, if_neg (show ¬ (169 : Int32) ≤ nI k from nI_ge (b := 169) (by omega) (by omega)), inBn (show k < 169 by omega) (by omega), gd_t, nm_eq, ixn (by omega), nI_1]
    obtain ⟨V', a1, a2, a3⟩ := ih q (k + 1) (up2 T 89 k 0) (by omega) (by omega) (fun e he => by
      by_cases e2 : e = k
      · rw [e2, up2_eq]; rfl
      · rw [up2_ne _ (by omega)]; exact h e (by omega))
    exact ⟨V', a1, a2, fun c => by rw [a3, up2_ne _ (by omega)]⟩
theorem cp_l (f : Nat → Nat) (ke : SL → Option (Int64 × SL)) : ∀ (d m k : Nat) (V : SL), k + d = 169 → d < m → (∀ c, c < 169 → V 89 c = lN (f c)) → (∀ c, c < k → V 88 c = lN (f c)) → ∃ V', f_X10_waysOf_301 ke m (nI k) V = ke V' ∧ (∀ c, c < 169 → V' 88 c = lN (f c)) := by
  intro d
  induction d with
  | zero =>
    intro m k T hk hm h1 h
    obtain ⟨q, rfl⟩ : ∃ q, m = q + 1 := ⟨m - 1, by omega⟩
    rw [f_X10_waysOf_301, if_pos (show (169 : Int32) ≤ nI k from nI_le (a := 169) (by omega) (by omega))]
    exact ⟨T, rfl, fun e he => h e (by omega)⟩
  | succ d ih =>
    intro m k T hk hm h1 h
    obtain ⟨q, rfl⟩ : ∃ q, m = q + 1 := ⟨m - 1, by omega⟩
    rw [f_X10_waysOf_301, if_neg (show ¬ (169 : Int32) ≤ nI k from nI_ge (b := 169) (by omega) (by omega)), inBn (show k < 169 by omega) (by omega), gd_t, gd_t, nm_eq, ixn (by omega), nI_1, h1 k (by omega)]
    exact ih q (k + 1) _ (by omega) (by omega) (fun c hc => by rw [up2_ne _ (by omega)]; exact h1 c hc) (fun e he => by
      by_cases e2 : e = k
      · rw [e2, up2_eq]
      · rw [up2_ne _ (by omega)]; exact h e (by omega))
/-- what has been dealt out of the cells before p -/
def thN (s mk : Nat) (G : Nat → Nat) (p c : Nat) : Nat := (if mk.testBit 2 = true ∧ c < p then G c else 0) + (if (mk.testBit 0 = true ∧ s ≤ c / 13) ∧ c - 13 * s < p then G (c - 13 * s) else 0) + (if (mk.testBit 1 = true ∧ s ≤ c % 13) ∧ c - s < p then G (c - s) else 0)
theorem th_skip {s mk : Nat} {G : Nat → Nat} {p : Nat} (h : G p = 0) (c : Nat) : thN s mk G (p + 1) c = thN s mk G p c := by
  have e : ∀ (b : Prop) [Decidable b] (x : Nat), (if b ∧ x < p + 1 then G x else 0) = (if b ∧ x < p then G x else 0) := fun b _ x => by
    by_cases hx : x = p
    · rw [hx, h]; split <;> split <;> rfl
    · simp only [show (x < p + 1) = (x < p) from propext (by omega)]
  unfold thN
  rw [e, e, e]
theorem th_step {s mk : Nat} {G : Nat → Nat} {p : Nat} (hs : 1 ≤ s) (ht : p % 13 + s ≤ 12) (c : Nat) : thN s mk G (p + 1) c = thN s mk G p c + (if c = p + 13 * s then (if mk.testBit 0 = true then G p else 0) else if c = p + s then (if mk.testBit 1 = true then G p else 0) else if c = p then (if mk.testBit 2 = true then G p else 0) else 0) := by
  have e : ∀ (b : Prop) [Decidable b] (x : Nat), (if b ∧ x < p + 1 then G x else 0) = (if b ∧ x < p then G x else 0) + (if b ∧ x = p then G p else 0) := fun b _ x => by
    by_cases hb : b
    · by_cases hx : x = p
      · rw [hx, if_pos ⟨hb, by omega⟩, if_neg (by omega), if_pos ⟨hb, rfl⟩, Nat.zero_add]
      · simp only [show (x < p + 1) = (x < p) from propext (by omega), eq_false hx, and_false, if_false, Nat.add_zero]
    · rw [if_neg (fun q => hb q.1), if_neg (fun q => hb q.1), if_neg (fun q => hb q.1)]
  unfold thN
  rw [e, e, e]
  have a0 : (if (mk.testBit 0 = true ∧ s ≤ c / 13) ∧ c - 13 * s = p then G p else 0) = if c = p + 13 * s then (if mk.testBit 0 = true then G p else 0) else 0 := by
    by_cases q : c = p + 13 * s
    · rw [if_pos q]
      by_cases b : mk.testBit 0 = true
      · rw [if_pos b, if_pos ⟨⟨b, by omega⟩, by omega⟩]
      · rw [if_neg b, if_neg (fun z => b z.1.1)]
    · rw [if_neg q, if_neg (fun z => by omega)]
  have a1 : (if (mk.testBit 1 = true ∧ s ≤ c % 13) ∧ c - s = p then G p else 0) = if c = p + s then (if mk.testBit 1 = true then G p else 0) else 0 := by
    by_cases q : c = p + s
    · rw [if_pos q]
      by_cases b : mk.testBit 1 = true
      · rw [if_pos b, if_pos ⟨⟨b, by omega⟩, by omega⟩]
      · rw [if_neg b, if_neg (fun z => b z.1.1)]
    · rw [if_neg q, if_neg (fun z => by omega)]
  have a2 : (if mk.testBit 2 = true ∧ c = p then G p else 0) = if c = p then (if mk.testBit 2 = true then G p else 0) else 0 := by
    by_cases q : c = p
    · rw [if_pos q]
      by_cases b : mk.testBit 2 = true
      · rw [if_pos b, if_pos ⟨b, q⟩]
      · rw [if_neg b, if_neg (fun z => b z.1)]
    · rw [if_neg q, if_neg (fun z => q z.2)]
  rw [a0, a1, a2]
  by_cases q0 : c = p + 13 * s
  · simp only [eq_true q0, eq_false (show ¬ c = p + s by omega), eq_false (show ¬ c = p by omega), if_true, if_false]
    omega
  · by_cases q1 : c = p + s
    · simp only [eq_false q0, eq_true q1, eq_false (show ¬ c = p by omega), if_true, if_false]
      omega
    · simp only [eq_false q0, eq_false q1, if_false]
      omega
theorem psh_l {s mk d0 : Nat} {G : Nat → Nat} (hs : 1 ≤ s) (hds : d0 + s ≤ 12) (hmk : mk < 8) (hG : ∀ c, c < 169 → d0 < c / 13 + c % 13 → G c = 0) (hB : ∀ c, c < 169 → G c < 2 ^ 62) (ke : SL → Option (Int64 × SL)) : ∀ (d m p : Nat) (V : SL), p + d = 169 → d < m → (∀ c, c < 169 → V 88 c = lN (G c)) → (∀ c, c < 169 → V 89 c = lN (thN s mk G p c)) → ∃ V', f_X10_waysOf_120 (nI s) (nI mk) ke m (nI p) V = ke V' ∧ (∀ c, c < 169 → V' 89 c = lN (dlN s mk G c)) := by
  intro d
  induction d with
  | zero =>
    intro m p V hp hm h1 h2
    obtain ⟨q, rfl⟩ : ∃ q, m = q + 1 := ⟨m - 1, by omega⟩
    rw [f_X10_waysOf_120, if_pos (show (169 : Int32) ≤ nI p from nI_le (a := 169) (by omega) (by omega))]
    refine ⟨V, rfl, fun c hc => ?_⟩
    rw [h2 c hc, show p = 169 by omega]
    congr 1
    unfold thN dlN
    simp only [show (c < 169) = True from propext ⟨fun _ => trivial, fun _ => hc⟩, show (c - 13 * s < 169) = True from propext ⟨fun _ => trivial, fun _ => by omega⟩, show (c - s < 169) = True from propext ⟨fun _ => trivial, fun _ => by omega⟩, and_true]
  | succ d ih =>
    intro m p V hp hm h1 h2
    obtain ⟨q, rfl⟩ : ∃ q, m = q + 1 := ⟨m - 1, by omega⟩
    have hb := hB p (by omega)
    rw [f_X10_waysOf_120, if_neg (show ¬ (169 : Int32) ≤ nI p from nI_ge (b := 169) (by omega) (by omega)), inBn (show p < 169 by omega) (by omega), gd_t, ixn (by omega), h1 p (by omega), nI_1]
    simp only [show (lN (G p) ≤ (0 : Int64)) = (G p ≤ 0) from propext (pk_lLE (b := 0) (by omega) (by omega))]
    by_cases c0 : G p ≤ 0
    · rw [if_pos c0]
      refine ih q (p + 1) V (by omega) (by omega) h1 (fun c hc => ?_)
      rw [th_skip (by omega)]
      exact h2 c hc
    · rw [if_neg c0]
      have hsup : p / 13 + p % 13 ≤ d0 := Classical.byContradiction fun z => c0 (by rw [hG p (by omega) (by omega)]; omega)
      rw [if_neg (show ¬ (13 : Int32) = 0 by decide), nm_eq, if_neg (show ¬ (13 : Int32) = 0 by decide), nm_eq, show (13 : Int32) = nI 13 from rfl, pk_rem (show p < 2 ^ 31 by omega) (by omega) (by omega), pk_div (show p < 2 ^ 31 by omega) (by omega) (by omega), nI_add, if_pos (show nI (p / 13 + s) ≤ (12 : Int32) from nI_le (b := 12) (by omega) (by omega))]
      unfold f_X10_waysOf_180
      have q1 : 13 * (p / 13 + s) + p % 13 = p + 13 * s := by omega
      have q2 : 13 * (p / 13) + (p % 13 + s) = p + s := by omega
      have hh0 := has_eq (w := mk) (i := 0) (by omega) (by omega)
      have hh1 := has_eq (w := mk) (i := 1) (by omega) (by omega)
      have hh2 := has_eq (w := mk) (i := 2) (by omega) (by omega)
      rw [show nI 0 = (0 : Int32) from rfl] at hh0
      rw [show nI 1 = (1 : Int32) from rfl] at hh1
      rw [show nI 2 = (2 : Int32) from rfl] at hh2
      rw [pk_mul, nI_add, q1, inBn (show p + 13 * s < 169 by omega) (by omega), gd_t, ixn (show p + 13 * s < 2 ^ 31 by omega), hh0, sb, inBn (show p < 169 by omega) (by omega), gd_t, ixn (show p < 2 ^ 31 by omega), h1 p (by omega), h2 (p + 13 * s) (by omega)]
      -- third
      have fin3 : ∀ (V2 : SL), (∀ c, c < 169 → V2 88 c = lN (G c)) → (∀ c, c < 169 → c ≠ p → V2 89 c = lN (thN s mk G (p + 1) c)) → V2 89 p = lN (thN s mk G p p) → ∃ V', (gd (inB (nI p) 169) ((f_X10_has (nI mk) (2 : Int32)).bind fun q36 => if q36 = 0 then f_X10_waysOf_290 V2 (nI p) (0 : Int64) (V2 89 (ix (nI p))) (nI p) (f_X10_waysOf_120 (nI s) (nI mk) ke q) else gd (inB (nI p) 169) (f_X10_waysOf_290 V2 (nI p) (V2 88 (ix (nI p))) (V2 89 (ix (nI p))) (nI p) (f_X10_waysOf_120 (nI s) (nI mk) ke q)))) = ke V' ∧ (∀ c, c < 169 → V' 89 c = lN (dlN s mk G c)) := fun V2 k1 k2 k3 => by
        rw [inBn (show p < 169 by omega) (by omega), gd_t, gd_t, hh2, sb, ixn (show p < 2 ^ 31 by omega), k1 p (by omega), k3]
        unfold f_X10_waysOf_290
        rw [inBn (show p < 169 by omega) (by omega), gd_t, gd_t, nm_eq, nm_eq, ixn (show p < 2 ^ 31 by omega), nI_1, show (0 : Int64) = lN 0 from rfl, lN_add, lN_add]
        have hst := th_step (s := s) (mk := mk) (G := G) (p := p) hs (by omega) p
        rw [if_neg (by omega), if_neg (by omega), if_pos rfl] at hst
        have go : ∀ x, x = thN s mk G (p + 1) p → ∃ V', f_X10_waysOf_120 (nI s) (nI mk) ke q (nI (p + 1)) (up2 V2 89 p (lN x)) = ke V' ∧ (∀ c, c < 169 → V' 89 c = lN (dlN s mk G c)) := fun x hx => ih q (p + 1) _ (by omega) (by omega) (fun c hc => by rw [up2_ne _ (by omega)]; exact k1 c hc) (fun c hc => by
          by_cases e : c = p
          · rw [e, up2_eq, hx]
          · rw [up2_ne _ (by omega)]; exact k2 c hc e)
        cases hbit : mk.testBit 2 with
        | false =>
          rw [hbit] at hst
          rw [if_pos (show (if false = true then (1 : Int32) else 0) = 0 from rfl)]
          exact go _ (by rw [hst]; simp)
        | true =>
          rw [hbit] at hst
          rw [if_neg (show ¬ (if true = true then (1 : Int32) else 0) = 0 by decide)]
          exact go _ (by rw [hst]; simp)
      -- second
      have fin2 : ∀ (V1 : SL), (∀ c, c < 169 → V1 88 c = lN (G c)) → (∀ c, c < 169 → c ≠ p → c ≠ p + s → V1 89 c = lN (thN s mk G (p + 1) c)) → V1 89 p = lN (thN s mk G p p) → V1 89 (p + s) = lN (thN s mk G p (p + s)) → ∃ V', f_X10_waysOf_237 V1 (nI mk) (nI p) (nI (p % 13) + nI s) (nI 13 * nI (p / 13)) (f_X10_waysOf_120 (nI s) (nI mk) ke q) = ke V' ∧ (∀ c, c < 169 → V' 89 c = lN (dlN s mk G c)) := fun V1 k1 k2 k3 k4 => by
        unfold f_X10_waysOf_237
        rw [pk_mul, nI_add, nI_add, q2, inBn (show p + s < 169 by omega) (by omega), gd_t, hh1, sb, inBn (show p < 169 by omega) (by omega), gd_t, ixn (show p < 2 ^ 31 by omega), ixn (show p + s < 2 ^ 31 by omega), k1 p (by omega), k4]
        unfold f_X10_waysOf_260
        rw [inBn (show p + s < 169 by omega) (by omega), gd_t, gd_t, nm_eq, nm_eq, ixn (show p + s < 2 ^ 31 by omega), show (0 : Int64) = lN 0 from rfl, lN_add, lN_add]
        have hst := th_step (s := s) (mk := mk) (G := G) (p := p) hs (by omega) (p + s)
        rw [if_neg (by omega), if_pos rfl] at hst
        have go : ∀ x, x = thN s mk G (p + 1) (p + s) → _ := fun x hx => fin3 (up2 V1 89 (p + s) (lN x)) (fun c hc => by rw [up2_ne _ (by omega)]; exact k1 c hc) (fun c hc hcp => by
          by_cases e : c = p + s
          · rw [e, up2_eq, hx]
          · rw [up2_ne _ (by omega)]; exact k2 c hc hcp e) (by rw [up2_ne _ (by omega)]; exact k3)
        cases hbit : mk.testBit 1 with
        | false =>
          rw [hbit] at hst
          rw [if_pos (show (if false = true then (1 : Int32) else 0) = 0 from rfl)]
          exact go _ (by rw [hst]; simp)
        | true =>
          rw [hbit] at hst
          rw [if_neg (show ¬ (if true = true then (1 : Int32) else 0) = 0 by decide)]
          exact go _ (by rw [hst]; simp)
      unfold f_X10_waysOf_206
      rw [inBn (show p + 13 * s < 169 by omega) (by omega), gd_t, gd_t, nm_eq, nm_eq, ixn (show p + 13 * s < 2 ^ 31 by omega), show (0 : Int64) = lN 0 from rfl, lN_add, lN_add, if_pos (show nI (p % 13) + nI s ≤ (12 : Int32) by rw [nI_add]; exact nI_le (b := 12) (by omega) (by omega)), if_pos (show nI (p % 13) + nI s ≤ (12 : Int32) by rw [nI_add]; exact nI_le (b := 12) (by omega) (by omega)), show (13 : Int32) = nI 13 from rfl]
      have hst := th_step (s := s) (mk := mk) (G := G) (p := p) hs (by omega) (p + 13 * s)
      rw [if_pos rfl] at hst
      have go : ∀ x, x = thN s mk G (p + 1) (p + 13 * s) → _ := fun x hx => fin2 (up2 V 89 (p + 13 * s) (lN x)) (fun c hc => by rw [up2_ne _ (by omega)]; exact h1 c hc) (fun c hc hcp hcs => by
        by_cases e : c = p + 13 * s
        · rw [e, up2_eq, hx]
        · rw [up2_ne _ (by omega), h2 c hc, th_step hs (by omega) c, if_neg e, if_neg hcs, if_neg hcp, Nat.add_zero]) (by rw [up2_ne _ (by omega)]; exact h2 p (by omega)) (by rw [up2_ne _ (by omega)]; exact h2 (p + s) (by omega))
      cases hbit : mk.testBit 0 with
      | false =>
        rw [hbit] at hst
        rw [if_pos (show (if false = true then (1 : Int32) else 0) = 0 from rfl)]
        exact go _ (by rw [hst]; simp)
      | true =>
        rw [hbit] at hst
        rw [if_neg (show ¬ (if true = true then (1 : Int32) else 0) = 0 by decide)]
        exact go _ (by rw [hst]; simp)
