theorem two_bit {X a b : Nat} (hX : X < 4096) (ha : a < 32) (hb : b < 32) : ((((nI X) >>> (nI a &&& 31)) &&& ((nI X) >>> (nI b &&& 31))) &&& (1 : Int32) = 1) = ((X.testBit a && X.testBit b) = true) := by
  rw [shrI (by omega) ha, shrI (by omega) hb, nx_and, and1_bit]
  simp only [Nat.testBit_and, Nat.testBit_shiftRight, Nat.add_zero]
  cases X.testBit a <;> cases X.testBit b <;> simp <;> decide
theorem br_lt (A : VW) (i j : Nat) : brN A i j < 16 := by
  unfold brN
  have h : ∀ a b, a < 2 ^ 4 → b < 2 ^ 4 → a ||| b < 2 ^ 4 := fun a b ha hb => Nat.or_lt_two_pow ha hb
  refine h _ _ (h _ _ ?_ ?_) (h _ _ ?_ ?_) <;> split <;> omega
theorem wgh_i {A : VW} (hV : HV A) {a : Nat} (ke : SI → Option SI) : ∀ (d m b : Nat) (S : SI), b + d = A 0 0 → a < b → d < m → HC S 1 A → ∃ S', f_X3_weigh_15 (nI (boX A)) (nI a) ke m (nI b) S = ke S' ∧ (∀ j, b ≤ j → j < A 0 0 → S' 54 (12 * a + j) = nI (g2N A a j)) ∧ ∀ x e, ¬ (x = 54 ∧ 12 * a + b ≤ e ∧ e < 12 * a + A 0 0) → S' x e = S x e := by
  intro d
  have hn := hV.1.1
  induction d with
  | zero =>
    intro m b S hb hab hm hC
    obtain ⟨q, rfl⟩ : ∃ q, m = q + 1 := ⟨m - 1, by omega⟩
    rw [f_X3_weigh_15, hC.1.1, if_pos (nI_le (by omega) (by omega))]
    exact ⟨S, rfl, fun j h1 h2 => by omega, fun _ _ _ => rfl⟩
  | succ d ih =>
    intro m b S hb hab hm hC
    obtain ⟨q, rfl⟩ : ∃ q, m = q + 1 := ⟨m - 1, by omega⟩
    have hbn : b < A 0 0 := by omega
    have han : a < A 0 0 := by omega
    have hd := ds_le hV han hbn
    have hbr := br_lt A a b
    have e12 : nI a * (12 : Int32) + nI b = nI (12 * a + b) := by rw [show (12 : Int32) = nI 12 from rfl, pk_mul, nI_add, Nat.mul_comm]
    have key : ∀ v : Int32, v = nI (g2N A a b) → ∃ S', f_X3_weigh_86 S (nI b) v (nI a * (12 : Int32) + nI b) (f_X3_weigh_15 (nI (boX A)) (nI a) ke q) = ke S' ∧ (∀ j, b ≤ j → j < A 0 0 → S' 54 (12 * a + j) = nI (g2N A a j)) ∧ ∀ x e, ¬ (x = 54 ∧ 12 * a + b ≤ e ∧ e < 12 * a + A 0 0) → S' x e = S x e := fun v hv => by
      unfold f_X3_weigh_86
      rw [e12, inBn (show 12 * a + b < 144 by omega) (by omega), gd_t, nm_eq, ixn (by omega), nI_1]
      obtain ⟨S', a1, a2, a3⟩ := ih q (b + 1) (up2 S 54 (12 * a + b) v) (by omega) (by omega) (by omega) (hC.cg (fun x e _ _ => up2_ne _ (by omega)) hn)
      refine ⟨S', a1, fun j h1 h2 => ?_, fun x e he => by rw [a3 x e (by omega), up2_ne _ (by omega)]⟩
      by_cases e : j = b
      · rw [e, a3 _ _ (by omega), up2_eq, hv]
      · exact a2 j (by omega) h2
    rw [f_X3_weigh_15, hC.1.1, if_neg (nI_ge (by omega) (by omega))]
    simp only [two_bit (bo_lt hn).2 (show a < 32 by omega) (show b < 32 by omega)]
    rw [bo_bit, bo_bit, decide_eq_true han, decide_eq_true hbn, Bool.true_and, Bool.true_and]
    unfold f_X3_weigh_43
    have hg : g2N A a b = if fitB A a b = true then 2000 - dsN A a b else 0 := rfl
    unfold fitB at hg
    cases hbb : (A 14 a == 0 && A 14 b == 0) with
    | false =>
      rw [hbb] at hg
      rw [if_neg (by simp), if_pos rfl]
      exact key 0 (by rw [hg]; rfl)
    | true =>
      rw [hbb, Bool.true_and] at hg
      rw [if_pos rfl, if_neg (show ¬ (1 : Int32) = 0 by decide), bars_C hV hC han hbn, sb, dis_C hV hC han hbn, sb]
      simp only [show (nI (brN A a b) = (0 : Int32)) = (brN A a b = 0) from propext (nI_eq (b := 0) (by omega) (by omega))]
      by_cases c : brN A a b = 0
      · rw [if_pos (by rw [c]; rfl)] at hg
        rw [if_pos c]
        exact key _ (by rw [hg, show (2000 : Int32) = nI 2000 from rfl, pk_sub (by omega)])
      · rw [if_neg (by simp [c])] at hg
        rw [if_neg c]
        exact key 0 (by rw [hg]; rfl)
theorem wgh_o {A : VW} (hV : HV A) : ∀ (d m a : Nat) (S : SI), a + d = A 0 0 → d < m → HC S 1 A → (∀ i j, i < a → i < j → j < A 0 0 → S 54 (12 * i + j) = nI (g2N A i j)) → ∃ S', f_X3_weigh_2 (nI (boX A)) m (nI a) S = some S' ∧ PG S' A ∧ ∀ x e, x ≠ 54 → S' x e = S x e := by
  intro d
  have hn := hV.1.1
  have hF := fu_big
  induction d with
  | zero =>
    intro m a S ha hm hC h
    obtain ⟨q, rfl⟩ : ∃ q, m = q + 1 := ⟨m - 1, by omega⟩
    rw [f_X3_weigh_2, hC.1.1, if_pos (nI_le (by omega) (by omega))]
    exact ⟨S, rfl, fun i j h1 h2 => h i j (by omega) h1 h2, fun _ _ _ => rfl⟩
  | succ d ih =>
    intro m a S ha hm hC h
    obtain ⟨q, rfl⟩ : ∃ q, m = q + 1 := ⟨m - 1, by omega⟩
    rw [f_X3_weigh_2, hC.1.1, if_neg (nI_ge (by omega) (by omega)), nm_eq, nI_1]
    obtain ⟨S1, a1, a2, a3⟩ := wgh_i hV (a := a) (fun So => f_X3_weigh_93 So (nI a) (f_X3_weigh_2 (nI (boX A)) q)) (A 0 0 - (a + 1)) fu (a + 1) S (by omega) (by omega) (by omega) hC
    rw [a1]
    unfold f_X3_weigh_93
    rw [nI_1]
    obtain ⟨S2, b1, b2, b3⟩ := ih q (a + 1) S1 (by omega) (by omega) (hC.cg (fun x e _ _ => a3 _ _ (by omega)) hn) (fun i j h1 h2 h3 => by
      by_cases e : i = a
      · rw [e]; exact a2 j (by omega) h3
      · rw [a3 _ _ (by omega)]; exact h i j (by omega) h2 h3)
    exact ⟨S2, b1, b2, fun x e hx => by rw [b3 x e hx, a3 _ _ (by omega)]⟩
theorem knw_l {A : VW} (hn : A 0 0 ≤ 12) (ke : SI → Option SI) : ∀ (d m X : Nat) (S : SI), X + d = 2 ^ A 0 0 → d < m → S 1 1 = nI (A 0 0) → (∀ Y, Y < X → S 55 Y = -1) → ∃ S', f_X3_make_14 ke m (nI X) S = ke S' ∧ (∀ Y, Y < 2 ^ A 0 0 → S' 55 Y = -1) ∧ ∀ x e, x ≠ 55 → S' x e = S x e := by
  intro d
  have hp := pow12 hn
  induction d with
  | zero =>
    intro m X S hX hm h1 h
    obtain ⟨q, rfl⟩ : ∃ q, m = q + 1 := ⟨m - 1, by omega⟩
    rw [f_X3_make_14, h1, shl1 (by omega), if_pos (nI_le (by omega) (by omega))]
    exact ⟨S, rfl, fun Y hY => h Y (by omega), fun _ _ _ => rfl⟩
  | succ d ih =>
    intro m X S hX hm h1 h
    obtain ⟨q, rfl⟩ : ∃ q, m = q + 1 := ⟨m - 1, by omega⟩
    rw [f_X3_make_14, h1, shl1 (by omega), if_neg (nI_ge (by omega) (by omega)), inBn (show X < 4096 by omega) (by omega), gd_t, nm_eq, ixn (by omega), nI_1]
    obtain ⟨S', a1, a2, a3⟩ := ih q (X + 1) (up2 S 55 X (-1)) (by omega) (by omega) (by rw [up2_ne _ (by omega)]; exact h1) (fun Y hY => by
      by_cases e : Y = X
      · rw [e, up2_eq]
      · rw [up2_ne _ (by omega)]; exact h Y (by omega))
    exact ⟨S', a1, a2, fun x e hx => by rw [a3 x e hx, up2_ne _ (by omega)]⟩
theorem prt_l (ke : SI → Option SI) : ∀ (d m k : Nat) (S : SI), k + d = 12 → d < m → (∀ j, j < k → S 56 j = -4) → ∃ S', f_X3_trace_12 ke m (nI k) S = ke S' ∧ (∀ j, j < 12 → S' 56 j = -4) ∧ ∀ x e, x ≠ 56 → S' x e = S x e := by
  intro d
  induction d with
  | zero =>
    intro m k S hk hm h
    obtain ⟨q, rfl⟩ : ∃ q, m = q + 1 := ⟨m - 1, by omega⟩
    rw [f_X3_trace_12, if_pos (show (12 : Int32) ≤ nI k from nI_le (a := 12) (by omega) (by omega))]
    exact ⟨S, rfl, fun j hj => h j (by omega), fun _ _ _ => rfl⟩
  | succ d ih =>
    intro m k S hk hm h
    obtain ⟨q, rfl⟩ : ∃ q, m = q + 1 := ⟨m - 1, by omega⟩
    rw [f_X3_trace_12, if_neg (show ¬ (12 : Int32) ≤ nI k from nI_ge (b := 12) (by omega) (by omega)), inBn (show k < 12 by omega) (by omega), gd_t, nm_eq, ixn (by omega), nI_1]
    obtain ⟨S', a1, a2, a3⟩ := ih q (k + 1) (up2 S 56 k (-4)) (by omega) (by omega) (fun j hj => by
      by_cases e : j = k
      · rw [e, up2_eq]
      · rw [up2_ne _ (by omega)]; exact h j (by omega))
    exact ⟨S', a1, a2, fun x e hx => by rw [a3 x e hx, up2_ne _ (by omega)]⟩
theorem tr_C {A : VW} (hV : HV A) : ∀ (r m X c t : Nat) (f : Nat → Int32) (S : SI), r ≤ A 0 0 → r < m → X < 2 ^ A 0 0 → noB X (A 0 0 - r) → PG S A → KN S A → HC S 1 A → (∀ k, k < 12 → S 56 k = f k) → S 53 3 = nI c → S 53 4 = nI t → ∃ S', f_X3_trace_37 m (nI X) (nI (A 0 0 - r)) S = some S' ∧ (∀ k, k < 12 → S' 56 k = ptN A r X f k) ∧ S' 53 3 = nI (c + prN A r X) ∧ S' 53 4 = nI (t + pdN A r X) ∧ ∀ x e, (x < 53 ∨ 57 ≤ x) → S' x e = S x e := by
  intro r
  have hn := hV.1.1
  have hp := pow12 hn
  induction r with
  | zero =>
    intro m X c t f S _ hm hX hno hg hk hC h56 h3 h4
    obtain ⟨q, rfl⟩ : ∃ q, m = q + 1 := ⟨m - 1, by omega⟩
    rw [f_X3_trace_37, hC.1.1, if_pos (nI_le (by omega) (by omega))]
    exact ⟨S, rfl, h56, h3, h4, fun _ _ _ => rfl⟩
  | succ r ih =>
    intro m X c t f S hr hm hX hno hg hk hC h56 h3 h4
    obtain ⟨q, rfl⟩ : ∃ q, m = q + 1 := ⟨m - 1, by omega⟩
    rw [ptN_s, prN_s, pdN_s]
    generalize hi : A 0 0 - (r + 1) = i at hno ⊢
    have hin : i < A 0 0 := by omega
    have hi12 : i < 12 := by omega
    have hri : A 0 0 - r = i + 1 := by omega
    have hX4 : X < 4096 := by omega
    have hX2 : rmN X i < 4096 := Nat.lt_of_le_of_lt (rm_le _ _) hX4
    have hXn : rmN X i < 2 ^ A 0 0 := Nat.lt_of_le_of_lt (rm_le _ _) hX
    have hlow := noB_low hX4 hi12 hno
    obtain ⟨S1, a1, a2, a3⟩ := ff_C hV hin hX hno hg hk
    rw [f_X3_trace_37, hC.1.1, if_neg (nI_ge (by omega) (by omega)), a1, sb, nm_eq, rm_I hi12, nI_1]
    have hg1 : PG S1 A := fun x y h1 h2 => by rw [a3 _ _ (by omega)]; exact hg x y h1 h2
    have hC1 : HC S1 1 A := hC.cg (fun x e _ _ => a3 _ _ (by omega)) hn
    have skp : ∀ Y, Y < 2 ^ A 0 0 → noB Y (i + 1) → ∃ S', f_X3_trace_37 q (nI Y) (nI (i + 1)) S1 = some S' ∧ (∀ k, k < 12 → S' 56 k = ptN A r Y f k) ∧ S' 53 3 = nI (c + prN A r Y) ∧ S' 53 4 = nI (t + pdN A r Y) ∧ ∀ x e, (x < 53 ∨ 57 ≤ x) → S' x e = S x e := fun Y hY hnY => by
      obtain ⟨S2, b1, b2, b3, b4, b5⟩ := ih q Y c t f S1 (by omega) (by omega) hY (by rw [hri]; exact hnY) hg1 a2 hC1 (fun k hk => by rw [a3 _ _ (by omega)]; exact h56 k hk) (by rw [a3 _ _ (by omega)]; exact h3) (by rw [a3 _ _ (by omega)]; exact h4)
      rw [hri] at b1
      exact ⟨S2, b1, b2, b3, b4, fun x e hx => by rw [b5 x e hx, a3 _ _ (by omega)]⟩
    cases hb : X.testBit i with
    | false =>
      have hno2 : noB X (i + 1) := fun j hj => by
        by_cases e : j = i
        · rw [e]; exact hb
        · exact hno j (by omega)
      simp only [Bool.false_eq_true, if_false, if_true]
      rw [rm_same hX4 hi12 hb]
      exact skp X hX hno2
    | true =>
      simp only [if_true]
      cases hc : chN2 A X i with
      | none =>
        simp only [show o4I none = (-4 : Int32) from rfl, if_true]
        exact skp (rmN X i) hXn hlow
      | some j =>
        obtain ⟨j1, j2, j3⟩ := ch_some hc
        have hj12 : j < 12 := by omega
        simp only [show o4I (some j) = nI j from rfl, n_m4 (show j < 2 ^ 31 by omega), if_false]
        rw [nm_eq, rm_I hj12, inBn hi12 (by omega), gd_t, nm_eq, inBn hj12 (by omega), gd_t, nm_eq, nm_eq, ixn (show i < 2 ^ 31 by omega), ixn (show j < 2 ^ 31 by omega)]
        generalize hS3 : up2 (up2 S1 56 i (nI j)) 56 j (nI i) = S3
        have f3 : ∀ x e, x ≠ 56 → S3 x e = S1 x e := fun x e hx => by rw [← hS3, up2_ne _ (by omega), up2_ne _ (by omega)]
        have s533 : S3 53 3 = nI c := by rw [f3 _ _ (by omega), a3 _ _ (by omega)]; exact h3
        rw [s533, nI_1]
        generalize hS4 : up2 S3 53 3 (nI (c + 1)) = S4
        have f4 : ∀ x e, ¬ (x = 53 ∧ e = 3) → S4 x e = S3 x e := fun x e hx => by rw [← hS4, up2_ne _ (by omega)]
        have hC4 : HC S4 1 A := hC1.cg (fun x e _ _ => by rw [f4 _ _ (by omega), f3 _ _ (by omega)]) hn
        rw [dis_C hV hC4 hin j2, sb, nm_eq, show S4 53 4 = nI t by rw [f4 _ _ (by omega), f3 _ _ (by omega), a3 _ _ (by omega)]; exact h4, nI_add]
        generalize hS5 : up2 S4 53 4 (nI (t + dsN A i j)) = S5
        have f5 : ∀ x e, x ≠ 53 → S5 x e = S3 x e := fun x e hx => by rw [← hS5, up2_ne _ (by omega), f4 _ _ (by omega)]
        have hXj : rmN (rmN X i) j < 2 ^ A 0 0 := Nat.lt_of_le_of_lt (rm_le _ _) hXn
        obtain ⟨S2, b1, b2, b3, b4, b5⟩ := ih q (rmN (rmN X i) j) (c + 1) (t + dsN A i j) (upF (upF f i (nI j)) j (nI i)) S5 (by omega) (by omega) hXj (by rw [hri]; exact noB_rm hX2 hj12 hlow) (fun x y h1 h2 => by rw [f5 _ _ (by omega), f3 _ _ (by omega)]; exact hg1 x y h1 h2) (fun Y hY => by rw [f5 _ _ (by omega), f3 _ _ (by omega)]; exact a2 Y hY) (hC1.cg (fun x e _ _ => by rw [f5 _ _ (by omega), f3 _ _ (by omega)]) hn) (fun k hk => by
          rw [f5 _ _ (by omega), ← hS3]
          unfold upF
          by_cases e1 : k = j
          · rw [e1, up2_eq, if_pos rfl]
          · rw [up2_ne _ (by omega), if_neg e1]
            by_cases e2 : k = i
            · rw [e2, up2_eq, if_pos rfl]
            · rw [up2_ne _ (by omega), if_neg e2, a3 _ _ (by omega)]
              exact h56 k hk) (by rw [← hS5, up2_ne _ (by omega), ← hS4, up2_eq]) (by rw [← hS5, up2_eq])
        rw [hri] at b1
        refine ⟨S2, b1, b2, ?_, ?_, fun x e hx => by rw [b5 x e hx, f5 _ _ (by omega), f3 _ _ (by omega), a3 _ _ (by omega)]⟩
        · rw [b3, Nat.add_assoc]
        · rw [b4, Nat.add_assoc]
theorem mak_C {S : SI} {A : VW} (hV : HV A) (hC : HC S 1 A) : ∃ S', f_X3_make S = some S' ∧ (∀ k, k < 12 → S' 56 k = ptF A k) ∧ S' 53 3 = nI (prN A (A 0 0) (boX A)) ∧ S' 53 4 = nI (pdN A (A 0 0) (boX A)) ∧ ∀ x e, (x < 53 ∨ 57 ≤ x) → S' x e = S x e := by
  have hn := hV.1.1
  have hp := pow12 hn
  have hF := fu_big
  have pc := plc_C hV hC (v := 0) (by omega)
  rw [show nI 0 = (0 : Int32) from rfl] at pc
  unfold f_X3_make
  rw [pc, sb]
  obtain ⟨S1, a1, a2, a3⟩ := wgh_o hV (A 0 0) fu 0 S (by omega) (by omega) hC (fun i j h => by omega)
  have hC1 : HC S1 1 A := hC.cg (fun x e _ _ => a3 _ _ (by omega)) hn
  obtain ⟨S2, b1, b2, b3⟩ := knw_l hn (fun So => f_X3_make_37 So (nI (boX A))) (2 ^ A 0 0) fu 0 S1 (by omega) (by omega) hC1.1.1 (fun Y hY => by omega)
  unfold f_X3_weigh
  rw [show (0 : Int32) = nI 0 from rfl, show nI (seN (fun i => A 14 i == 0) (A 0 0)) = nI (boX A) from rfl, a1, sb, b1]
  unfold f_X3_make_37 f_X3_trace
  rw [nm_eq, nm_eq]
  generalize hS3 : up2 (up2 S2 53 3 0) 53 4 0 = S3
  have f3 : ∀ x e, x ≠ 53 → S3 x e = S2 x e := fun x e hx => by rw [← hS3, up2_ne _ (by omega), up2_ne _ (by omega)]
  obtain ⟨S4, c1, c2, c3⟩ := prt_l (fun So => f_X3_trace_32 So (nI (boX A))) 12 fu 0 S3 (by omega) (by omega) (fun j hj => by omega)
  obtain ⟨S5, d1, d2, d3, d4, d5⟩ := tr_C hV (A 0 0) fu (boX A) 0 0 (fun _ => -4) S4 (by omega) (by omega) (bo_lt hn).1 (by rw [Nat.sub_self]; exact noB_0 _) (fun x y h1 h2 => by rw [c3 _ _ (by omega), f3 _ _ (by omega), b3 _ _ (by omega)]; exact a2 x y h1 h2) (fun Y hY => Or.inl (by rw [c3 _ _ (by omega), f3 _ _ (by omega)]; exact b2 Y hY)) (hC1.cg (fun x e _ _ => by rw [c3 _ _ (by omega), f3 _ _ (by omega), b3 _ _ (by omega)]) hn) c2 (by rw [c3 _ _ (by omega), ← hS3, up2_ne _ (by omega), up2_eq]; rfl) (by rw [c3 _ _ (by omega), ← hS3, up2_eq]; rfl)
  rw [Nat.sub_self] at d1
  refine ⟨S5, ?_, d2, by rw [d3, Nat.zero_add], by rw [d4, Nat.zero_add], fun x e hx => by rw [d5 x e hx, c3 _ _ (by omega), f3 _ _ (by omega), b3 _ _ (by omega), a3 _ _ (by omega)]⟩
  rw [show (0 : Int32) = nI 0 from rfl, c1]
  unfold f_X3_trace_32
  rw [show (0 : Int32) = nI 0 from rfl, d1, sb]
