theorem apa_M {t a b : Nat} (ht : t < 4) (ha : a < 64) (hb : b < 64) : f_X10_areApart (nI a) (nI b) (nI t) = some (if apF t a b = true then 1 else 0) := by
  have p1 := pop_le (seN (loB a b) 6)
  have p2 := pop_le (seN (loB b a) 6)
  unfold f_X10_areApart
  rw [lo_set (n := 6) (show a < 2 ^ 6 by omega) (by omega), ones_eq (se_small _ (by omega)), sb, lo_set (n := 6) (show b < 2 ^ 6 by omega) (by omega), ones_eq (se_small _ (by omega)), sb, ap_eq ht ha hb]
  unfold apN
  by_cases c : t < pop (seN (loB a b) 6)
  · rw [if_pos (nI_lt c (by omega)), decide_eq_true (by omega)]
    rfl
  · rw [if_neg (show ¬ nI t < nI (pop (seN (loB a b) 6)) by rw [nI_ltI (by omega) (by omega)]; exact c)]
    by_cases c2 : t < pop (seN (loB b a) 6)
    · rw [if_neg (nI_ge c2 (by omega)), decide_eq_true (by omega)]
      rfl
    · rw [if_pos (nI_le (by omega) (by omega)), decide_eq_false (by omega)]
      rfl
def stR (U : SI) : List Nat → Prop
  | [] => True
  | y :: l => U 90 l.length = nI y ∧ stR U l
theorem stR_cg {U U' : SI} : ∀ (l : List Nat), stR U l → (∀ i, i < l.length → U' 90 i = U 90 i) → stR U' l
  | [], _, _ => trivial
  | y :: l, h, e => ⟨by rw [e _ (by simp)]; exact h.1, stR_cg l h.2 (fun i hi => e i (by simp; omega))⟩
theorem st_get {U : SI} : ∀ (l : List Nat), stR U l → ∀ i (h : i < l.length), U 90 (l.length - 1 - i) = nI l[i]
  | [], _, i, h => absurd h (by simp)
  | y :: l, hs, i, h => by
    cases i with
    | zero => exact hs.1
    | succ i =>
      have := st_get l hs.2 i (by simp at h; exact h)
      rw [show (y :: l).length - 1 - (i + 1) = l.length - 1 - i by simp; omega, this]
      rfl
theorem st_rev {U : SI} {l : List Nat} (h : stR U l.reverse) (i : Nat) (hi : i < l.length) : U 90 i = nI l[i] := by
  have := st_get l.reverse h (l.length - 1 - i) (by simp; omega)
  rw [show l.reverse.length - 1 - (l.length - 1 - i) = i by simp; omega] at this
  rw [this, List.getElem_reverse]
  congr 2
  omega
theorem alF_iff {U : SI} {t v : Nat} : ∀ (l : List Nat), stR U l → (∀ y, y ∈ l → y < 64) → (alF t v l = true ↔ ∀ i, i < l.length → apF t (ix (U 90 i)) v = true)
  | [], _, _ => ⟨fun _ i hi => absurd hi (by simp), fun _ => rfl⟩
  | y :: l, hs, hb => by
    have ih := alF_iff (t := t) (v := v) l hs.2 (fun z hz => hb z (by simp [hz]))
    have e : ix (U 90 l.length) = y := by
      rw [hs.1, ixn]
      have := hb y (by simp)
      omega
    unfold alF
    constructor
    · intro h i hi
      by_cases c : apF t y v = true
      · rw [if_pos c] at h
        by_cases c2 : i = l.length
        · rw [c2, e]; exact c
        · exact ih.mp h i (by simp at hi; omega)
      · rw [if_neg c] at h; cases h
    · intro h
      have h1 := h l.length (by simp)
      rw [e] at h1
      rw [if_pos h1]
      exact ih.mpr (fun i hi => h i (by simp; omega))
theorem fm_i {U : SI} {t p v : Nat} (ht : t < 4) (hp : p < 5) (hv : v < 64) (hU : U 90 p = nI v) (x : Nat → Nat) (hx : ∀ i, i < p → x i < 64 ∧ U 90 i = nI (x i)) (ke : Int32 → Option (Int32 × SI)) : ∀ (d m i : Nat), i + d = p → d < m → f_X10_findMarks_44 U (nI t) (nI p) ke m 1 (nI i) = ke (if alB (fun i => apF t (x i) v) i d = true then 1 else 0) := by
  intro d
  induction d with
  | zero =>
    intro m i hi hm
    obtain ⟨q, rfl⟩ : ∃ q, m = q + 1 := ⟨m - 1, by omega⟩
    rw [f_X10_findMarks_44, if_pos (nI_le (by omega) (by omega))]
    rfl
  | succ d ih =>
    intro m i hi hm
    obtain ⟨q, rfl⟩ : ∃ q, m = q + 1 := ⟨m - 1, by omega⟩
    obtain ⟨h1, h2⟩ := hx i (by omega)
    rw [f_X10_findMarks_44, if_neg (nI_ge (by omega) (by omega)), if_neg (show ¬ (1 : Int32) = 0 by decide), inBn (show i < 5 by omega) (by omega), inBn (show p < 5 by omega) (by omega), gd_t, gd_t, ixn (by omega), ixn (by omega), h2, hU, apa_M ht h1 hv, sb, nI_1]
    show _ = ke (if (apF t (x i) v && alB (fun i => apF t (x i) v) (i + 1) d) = true then 1 else 0)
    cases hb : apF t (x i) v with
    | true =>
      rw [if_pos rfl, ih q (i + 1) (by omega) (by omega), Bool.true_and]
    | false =>
      rw [if_neg (by simp), Bool.false_and]
      obtain ⟨q', rfl⟩ : ∃ q', q = q' + 1 := ⟨q - 1, by omega⟩
      rw [f_X10_findMarks_44]
      by_cases c : nI p ≤ nI (i + 1)
      · rw [if_pos c]; rfl
      · rw [if_neg c, if_pos rfl]; rfl
theorem fm_0 {U : SI} {t p : Nat} (ke : Int32 → Option (Int32 × SI)) (m : Nat) (i : Int32) : f_X10_findMarks_44 U (nI t) (nI p) ke (m + 1) 0 i = ke 0 := by
  rw [f_X10_findMarks_44]
  by_cases c : nI p ≤ i
  · rw [if_pos c]
  · rw [if_neg c, if_pos rfl]
def fr90 (U U' : SI) : Prop := ∀ a k, a ≠ 90 → U' a k = U a k
def odO (U : SI) (m : Nat) (ke : Int32 → SI → Option (Int32 × SI)) (r : Option (Option (List Nat))) (f : Option (Int32 × SI)) : Prop := match r with
  | none => True
  | some none => ∃ U', f = ke (-1) U' ∧ fr90 U U'
  | some (some l) => l.length = m ∧ ∃ U', f = ke (nI m) U' ∧ stR U' l ∧ fr90 U U'
theorem od_sim {m t n : Nat} (hm : m ≤ 5) (h1m : 1 ≤ m) (ht : t < 4) (hn : n ≤ 6) (ke : Int32 → SI → Option (Int32 × SI)) : ∀ (fo fl : Nat) (l : List Nat) (v : Nat) (U0 U : SI), fo < fl → l.length < m → stR U l → U 90 l.length = nI v → v ≤ 2 ^ n → (∀ y, y ∈ l → y < 2 ^ n) → fr90 U0 U → odO U0 m ke (odN m t (2 ^ n) fo l v) (f_X10_findMarks_10 (nI m) (nI t) (nI n) ke fl (nI l.length) U) := by
  intro fo
  have hF := fu_big
  have hp : 2 ^ n ≤ 2 ^ 6 := Nat.pow_le_pow_right (by omega) hn
  induction fo with
  | zero => intro fl l v U0 U _ _ _ _ _ _ _; exact trivial
  | succ fo ih =>
    intro fl l v U0 U hf hl hs hv hvn hy hfr
    obtain ⟨w, rfl⟩ : ∃ w, fl = w + 2 := ⟨fl - 2, by omega⟩
    rw [f_X10_findMarks_10, if_neg (show ¬ nI l.length < (0 : Int32) from nI_pos (by omega)), if_neg (nI_ge (by omega) (by omega)), inBn (show l.length < 5 by omega) (by omega), gd_t, shl1 (by omega), ixn (by omega), hv]
    unfold odN
    rw [fc_eq]
    unfold f_X10_findMarks_39
    by_cases c : 2 ^ n ≤ v
    · rw [if_pos (Nat.ble_eq_true_of_le c), if_pos (nI_le c (by omega))]
      obtain ⟨F', hF'⟩ : ∃ F', fu = F' + 1 := ⟨fu - 1, by omega⟩
      rw [hF', fm_0]
      unfold f_X10_findMarks_82
      rw [inBn (show l.length < 5 by omega) (by omega), gd_t, ixn (by omega), hv, shl1 (by omega), if_neg (show ¬ nI v < nI (2 ^ n) by rw [nI_ltI (by omega) (by omega)]; omega)]
      cases l with
      | nil =>
        show odO U0 m ke (some none) _
        rw [show nI ([] : List Nat).length + (-1 : Int32) = -1 from rfl, if_pos (show (-1 : Int32) < 0 by decide), f_X10_findMarks_10, if_pos (show (-1 : Int32) < 0 by decide)]
        exact ⟨U, rfl, hfr⟩
      | cons y l =>
        show odO U0 m ke (odN m t (2 ^ n) fo l (y + 1)) _
        have hl2 : l.length + 1 < m := hl
        rw [show nI (y :: l).length + (-1 : Int32) = nI l.length from (by rw [← Int32.sub_eq_add_neg]; exact nI_pred l.length), if_neg (show ¬ nI l.length < (0 : Int32) from nI_pos (by omega)), inBn (show l.length < 5 by omega) (by omega), gd_t, gd_t, nm_eq, ixn (by omega), hs.1, nI_1]
        exact ih (w + 1) l (y + 1) U0 _ (by omega) (by omega) (stR_cg l hs.2 (fun i hi => up2_ne _ (by omega))) (up2_eq _ _ _ _) (by have := hy y (by simp); omega) (fun z hz => hy z (by simp [hz])) (fun a k ha => by rw [up2_ne _ (by omega)]; exact hfr a k ha)
    · rw [if_neg (show ¬ Nat.ble (2 ^ n) v = true from fun e => c (Nat.le_of_ble_eq_true e)), if_neg (nI_ge (by omega) (by omega))]
      have hxs : ∀ i, i < l.length → ix (U 90 i) < 64 ∧ U 90 i = nI (ix (U 90 i)) := fun i hi => by
        have h1 := st_get l hs (l.length - 1 - i) (by omega)
        rw [show l.length - 1 - (l.length - 1 - i) = i by omega] at h1
        have h2 := hy l[l.length - 1 - i] (List.getElem_mem _)
        rw [h1, ixn (by omega)]
        exact ⟨by omega, rfl⟩
      rw [show (0 : Int32) = nI 0 from rfl, fm_i ht (by omega) (show v < 64 by omega) hv (fun i => ix (U 90 i)) hxs _ l.length fu 0 (by omega) (by omega)]
      have hal := alF_iff (t := t) (v := v) l hs (fun y hy2 => by have := hy y hy2; omega)
      have hal2 : alB (fun i => apF t (ix (U 90 i)) v) 0 l.length = true ↔ alF t v l = true := by
        rw [hal, alB_iff]
        exact ⟨fun z i hi => z i (by omega) (by omega), fun z i _ hi => z i (by omega)⟩
      unfold f_X10_findMarks_82
      rw [inBn (show l.length < 5 by omega) (by omega), gd_t, ixn (by omega), hv, shl1 (by omega), if_pos (nI_lt (by omega) (by omega)), gd_t, gd_t, nm_eq]
      by_cases ca : alF t v l = true
      · rw [if_pos ca, if_pos (hal2.mpr ca), if_neg (show ¬ (1 : Int32) = 0 by decide), nI_1, show nI (l.length + 1) - (1 : Int32) = nI l.length from nI_pred _]
        by_cases cm : l.length + 1 = m
        · rw [if_pos (show Nat.beq (l.length + 1) m = true by rw [cm]; exact Nat.beq_refl m), if_pos (nI_le (by omega) (by omega)), f_X10_findMarks_10, if_neg (show ¬ nI (l.length + 1) < (0 : Int32) from nI_pos (by omega)), if_pos (nI_le (by omega) (by omega)), cm]
          exact ⟨cm, U, rfl, ⟨hv, hs⟩, hfr⟩
        · rw [if_neg (show ¬ Nat.beq (l.length + 1) m = true from fun e => cm (Nat.eq_of_beq_eq_true e)), if_neg (nI_ge (by omega) (by omega)), inBn (show l.length < 5 by omega) (by omega), inBn (show l.length + 1 < 5 by omega) (by omega), gd_t, gd_t, nm_eq, ixn (by omega), ixn (by omega), hv, nI_1]
          exact ih (w + 1) (v :: l) (v + 1) U0 _ (by omega) (by show l.length + 1 < m; omega) ⟨by rw [up2_ne _ (by omega)]; exact hv, stR_cg l hs (fun i hi => up2_ne _ (by omega))⟩ (up2_eq _ _ _ _) (by omega) (fun z hz => by
            rcases List.mem_cons.mp hz with rfl | hz
            · omega
            · exact hy z hz) (fun a k ha => by rw [up2_ne _ (by omega)]; exact hfr a k ha)
      · rw [if_neg ca, if_neg (fun z => ca (hal2.mp z)), if_pos rfl, nI_1]
        exact ih (w + 1) l (v + 1) U0 _ (by omega) hl (stR_cg l hs (fun i hi => up2_ne _ (by omega))) (up2_eq _ _ _ _) (by omega) hy (fun a k ha => by rw [up2_ne _ (by omega)]; exact hfr a k ha)
theorem fim_M {k n : Nat} (U : SI) (hk : k < 20) (hn : n < 6) (h : (mkT k).1 = 0 ∨ n + 1 ≤ (mkT k).1) : ∃ U', f_X10_findMarks U (nI (k / 4 + 1)) (nI (k % 4)) (nI (n + 1)) = some (if n + 1 = (mkT k).1 then 1 else 0, U') ∧ fr90 U U' ∧ (n + 1 = (mkT k).1 → ∀ i (hi : i < (mkT k).2.length), U' 90 i = nI (mkT k).2[i]) := by
  unfold f_X10_findMarks
  rw [show inB (0 : Int32) 5 = true from rfl, gd_t, nm_eq, show ix (0 : Int32) = 0 from rfl]
  have hs := od_sim (m := k / 4 + 1) (t := k % 4) (n := n + 1) (by omega) (by omega) (by omega) (by omega) (fun o4 Uo => f_X10_findMarks_166 Uo (nI (k / 4 + 1)) o4) 30000 fu [] 0 U (up2 U 90 0 0) (fu_lt (by omega)) (by show 0 < k / 4 + 1; omega) trivial (by rw [show ([] : List Nat).length = 0 from rfl, up2_eq]; rfl) (Nat.zero_le _) (fun y hy => absurd hy (by simp)) (fun a c ha => up2_ne _ (by omega))
  rw [od_tab hk hn h] at hs
  unfold mkR at hs
  by_cases c : n + 1 = (mkT k).1
  · rw [if_pos c] at hs
    obtain ⟨j0, U', j1, j2, j3⟩ := hs
    refine ⟨U', ?_, j3, fun _ i hi => st_rev j2 i hi⟩
    rw [show nI ([] : List Nat).length = (0 : Int32) from rfl] at j1
    rw [j1]
    show f_X10_findMarks_166 U' (nI (k / 4 + 1)) (nI (k / 4 + 1)) = _
    unfold f_X10_findMarks_166
    rw [if_pos rfl, if_pos c]
  · rw [if_neg c] at hs
    obtain ⟨U', j1, j2⟩ := hs
    refine ⟨U', ?_, j2, fun z => absurd z c⟩
    rw [show nI ([] : List Nat).length = (0 : Int32) from rfl] at j1
    rw [j1]
    show f_X10_findMarks_166 U' (nI (k / 4 + 1)) (-1) = _
    unfold f_X10_findMarks_166
    rw [if_neg (show ¬ (-1 : Int32) = nI (k / 4 + 1) from fun e => by
      have := congrArg Int32.toInt e
      rw [nI_toInt (by omega), show (-1 : Int32).toInt = -1 from rfl] at this
      omega), if_neg c]
/-- what the class keeps of one question -/
def PP (k : Nat) (a : Int32) (r : Nat → Int32) : Prop := a = ansI k ∧ ((mkT k).1 ≠ 0 → ∀ i (h : i < (mkT k).2.length), r i = nI (mkT k).2[i])
theorem ans_0 {k : Nat} (hk : k < 20) : ¬ ansI k = 0 := by
  have := (mk_len hk).1
  unfold ansI
  by_cases c : (mkT k).1 = 0
  · rw [if_pos c]; decide
  · rw [if_neg c]; exact nI_ne0 (by omega) (by omega)
theorem few_C {S U : SI} (h : RR PP S U) (T : SL) {k : Nat} (hk : k < 20) : ∃ S' T', f_X7_fewest S T (nI (k / 4 + 1)) (nI (k % 4)) = some (ansI k, S', T') ∧ PP k (S' 65 k) (fun i => S' 66 (5 * k + i)) ∧ RR PP S' U := by
  have hF := fu_big
  have hQ := h.2.2.2.2
  have hml := mk_len hk
  have e1 : (nI (k / 4 + 1) - (1 : Int32)) * (4 : Int32) + nI (k % 4) = nI k := by
    rw [nI_pred, show (4 : Int32) = nI 4 from rfl, pk_mul, nI_add]
    congr 1
    omega
  have e5 : nI k * (5 : Int32) = nI (5 * k) := by rw [show (5 : Int32) = nI 5 from rfl, pk_mul, Nat.mul_comm]
  unfold f_X7_fewest
  rw [e1, nm_eq, inBn hk (by omega), gd_t, ixn (by omega)]
  by_cases c : S 65 k = 0
  · rw [if_pos c]
    unfold f_X7_search
    obtain ⟨S1, T1, a1, a2, a3⟩ := sea_l hk 6 fu 1 S T (by omega) (by omega) (by omega) (by omega)
    rw [show (1 : Int32) = nI 1 from rfl, a1, sb, gd_t, nm_eq, e5]
    have hcp : cpB (0 : Int32) (nI (5 * k)) (nI (k / 4 + 1)) 5 100 = true := by
      unfold cpB
      rw [nI_toInt (by omega), nI_toInt (by omega), show (0 : Int32).toInt = 0 from rfl]
      exact decide_eq_true (by omega)
    rw [hcp, gd_t, nm_eq, gd_t, show ix (0 : Int32) = 0 from rfl, ixn (show 5 * k < 2 ^ 31 by omega), ixn (show k / 4 + 1 < 2 ^ 31 by omega)]
    dsimp only
    generalize hS6 : up2 S1 65 k (ansI k) = S6
    generalize hS8 : va_up S6 66 (va_cpy (S6 67) (S6 66) 0 (5 * k) (k / 4 + 1)) = S8
    have f6 : ∀ a e, ¬ (a = 67 ∨ (a = 65 ∧ e = k)) → S6 a e = S a e := fun a e he => by rw [← hS6, up2_ne _ (by omega), a2 _ _ (by omega)]
    have f8 : ∀ a e, a ≠ 66 → S8 a e = S6 a e := fun a e he => by rw [← hS8]; unfold va_up; rw [if_neg he]
    have g8 : ∀ e, S8 66 e = if 5 * k ≤ e ∧ e < 5 * k + (k / 4 + 1) then S6 67 (0 + (e - 5 * k)) else S6 66 e := fun e => by rw [← hS8]; unfold va_up va_cpy; rw [if_pos rfl]
    have s65 : S8 65 k = ansI k := by rw [f8 _ _ (by omega), ← hS6, up2_eq]
    have hP : PP k (S8 65 k) (fun i => S8 66 (5 * k + i)) := by
      refine ⟨s65, fun h0 i hi => ?_⟩
      have hlen := hml.2 h0
      show S8 66 (5 * k + i) = _
      rw [g8, if_pos (by omega), ← hS6, up2_ne _ (by omega), show 0 + (5 * k + i - 5 * k) = i by omega]
      exact a3 h0 i hi
    refine ⟨S8, T1, by rw [s65], hP, ?_⟩
    obtain ⟨hA, hi, htp, hs, -⟩ := h
    obtain ⟨A, hV, hC, hM⟩ := hA
    have f : ∀ a e, ¬ (a = 65 ∨ a = 66 ∨ a = 67) → S8 a e = S a e := fun a e he => by rw [f8 _ _ (by omega), f6 _ _ (by omega)]
    refine ⟨⟨A, hV, hC.cg (fun a e _ h2 => f _ _ (by omega)) hV.1.1, hM⟩, hi.cg (f _ _ (by omega)) rfl (fun a e _ _ => f _ _ (by omega)) rfl, htp.cg (f _ _ (by omega)) (funext fun e => f _ _ (by omega)) rfl rfl, hs.cg (fun a e _ _ => f _ _ (by omega)) rfl rfl rfl, fun j hj => ?_⟩
    by_cases ej : j = k
    · rw [ej]; exact Or.inr hP
    · have := hQ j hj
      have e65 : S8 65 j = S 65 j := by rw [f8 _ _ (by omega), f6 _ _ (by omega)]
      rcases this with z | z
      · exact Or.inl (by rw [e65]; exact z)
      · refine Or.inr ⟨by rw [e65]; exact z.1, fun h0 i hi2 => ?_⟩
        have hlen := (mk_len hj).2 h0
        show S8 66 (5 * j + i) = _
        rw [g8, if_neg (by omega), f6 _ _ (by omega)]
        exact z.2 h0 i hi2
  · rw [if_neg c, gd_t]
    have hP := (hQ k hk).resolve_left c
    exact ⟨S, T, by rw [hP.1], hP, h⟩
theorem mks_l {k : Nat} (hk : k < 20) (ke : Int32 → SI → Option (Int32 × SI)) (U0 : SI) : ∀ (d fl n : Nat) (U : SI), n + d = 7 → 1 ≤ n → d < fl → ((mkT k).1 = 0 ∨ n ≤ (mkT k).1) → fr90 U0 U → ∃ U', f_X10_marks_44 (nI (k / 4 + 1)) (nI (k % 4)) ke fl (nI n) U = (if (mkT k).1 = 0 then some (-4, U') else ke (nI (mkT k).1) U') ∧ fr90 U0 U' ∧ ((mkT k).1 ≠ 0 → ∀ i (h : i < (mkT k).2.length), U' 90 i = nI (mkT k).2[i]) := by
  intro d
  have hml := mk_len hk
  induction d with
  | zero =>
    intro fl n U hn h1 hfl h hf
    obtain ⟨w, rfl⟩ : ∃ w, fl = w + 1 := ⟨fl - 1, by omega⟩
    have h0 : (mkT k).1 = 0 := by omega
    rw [f_X10_marks_44, if_pos (show (6 : Int32) < nI n from nI_lt (a := 6) (by omega) (by omega))]
    exact ⟨U, by rw [if_pos h0], hf, fun z => absurd h0 z⟩
  | succ d ih =>
    intro fl n U hn h1 hfl h hf
    obtain ⟨w, rfl⟩ : ∃ w, fl = w + 1 := ⟨fl - 1, by omega⟩
    obtain ⟨q, rfl⟩ : ∃ q, n = q + 1 := ⟨n - 1, by omega⟩
    obtain ⟨U1, a1, a2, a3⟩ := fim_M U hk (n := q) (by omega) (by omega)
    rw [f_X10_marks_44, if_neg (show ¬ (6 : Int32) < nI (q + 1) by rw [lt_toInt, nI_toInt (by omega), show (6 : Int32).toInt = 6 from rfl]; omega), a1, sb]
    have hf2 : fr90 U0 U1 := fun a e ha => (a2 a e ha).trans (hf a e ha)
    by_cases c : q + 1 = (mkT k).1
    · simp only [if_pos c, show ¬ (1 : Int32) = 0 by decide, if_false]
      exact ⟨U1, by rw [if_neg (by omega), ← c], hf2, fun _ => a3 c⟩
    · simp only [if_neg c, if_true, nI_1]
      exact ih w (q + 1 + 1) U1 (by omega) (by omega) (by omega) (by omega) hf2
theorem op_marks {S U : SI} (h : RR PP S U) (T : SL) (v1 v2 v3 : Int32) : ∃ (r : Int32) (S1 : SI) (T1 : SL) (U1 : SI), f_X9_marks S T v1 v2 v3 = some (r, S1, T1) ∧ f_X10_marks U v1 v2 v3 = some (r, U1) ∧ RR PP S1 U1 := by
  have hF := fu_big
  unfold f_X9_marks f_X10_marks
  rw [mi _ 3 3 rfl, in_gen, in_gen, wi _ 4 4 rfl, sb, sb, sb, sb]
  simp only [lt_toInt, wide, show (1 : Int32).toInt = 1 from rfl, show (5 : Int32).toInt = 5 from rfl, show (1 : Int64).toInt = 1 from rfl, show (5 : Int64).toInt = 5 from rfl, show (-1 : Int32).toInt = -1 from rfl, show (-1 : Int64).toInt = -1 from rfl, show (0 : Int32).toInt = 0 from rfl]
  by_cases c1 : 1 ≤ v1.toInt ∧ v1.toInt ≤ 5
  · rw [if_pos c1, if_neg (show ¬ v1.toInt < 1 by omega), if_neg (show ¬ 5 < v1.toInt by omega), if_neg (show ¬ nI 1 = (0 : Int32) by decide)]
    obtain ⟨m, hm, rfl⟩ := inB_of (v := v1) (n := 6) (decide_eq_true (by omega)) (by omega)
    rw [nI_toInt (by omega)] at c1
    cases hv2 : inB v2 4 with
    | false => exact ⟨_, _, _, _, rfl, rfl, h⟩
    | true =>
      rw [if_pos rfl, if_neg (show ¬ (1 : Int32) = 0 by decide), if_neg (show ¬ (1 : Int32) = 0 by decide)]
      obtain ⟨t, ht, rfl⟩ := inB_of hv2 (by omega)
      obtain ⟨k, hk, hk1, hk2⟩ : ∃ k, k < 20 ∧ m = k / 4 + 1 ∧ t = k % 4 := ⟨(m - 1) * 4 + t, by omega, by omega, by omega⟩
      subst hk1 hk2
      rw [nI_pred, nI_toInt (by omega), nI_toInt (by omega)]
      by_cases c3 : -1 ≤ v3.toInt ∧ v3.toInt ≤ (k / 4 : Nat)
      · rw [if_pos c3, if_neg (show ¬ v3.toInt < -1 by omega), if_pos (show v3.toInt < ((k / 4 + 1 : Nat) : Int) by omega), if_neg (show ¬ nI 1 = (0 : Int32) by decide)]
        obtain ⟨S1, T1, a1, a2, a3⟩ := few_C h T hk
        obtain ⟨U1, b1, b2, b3⟩ := mks_l hk (fun o4 Uo => f_X10_marks_62 Uo v3 o4) U 6 fu 1 U (by omega) (by omega) (by omega) (by omega) (fun _ _ _ => rfl)
        have hR : RR PP S1 U1 := a3.same eqC.rf (fun a e hl => b2 _ _ (by unfold liM at hl; omega))
        rw [a1, sb, show (1 : Int32) = nI 1 from rfl, b1]
        dsimp only
        have hml := mk_len hk
        by_cases cn : v3.toInt < 0
        · rw [if_pos cn]
          unfold f_X10_marks_62 ansI
          by_cases c0 : (mkT k).1 = 0
          · rw [if_pos c0, if_pos c0]
            exact ⟨_, _, _, _, rfl, rfl, hR⟩
          · rw [if_neg c0, if_neg c0, if_neg (show ¬ 0 ≤ v3 by rw [le_toInt, show (0 : Int32).toInt = 0 from rfl]; omega)]
            exact ⟨_, _, _, _, rfl, rfl, hR⟩
        · rw [if_neg cn]
          obtain ⟨i, hi, rfl⟩ := inB_of (v := v3) (n := k / 4 + 1) (decide_eq_true (by omega)) (by omega)
          unfold f_X10_marks_62 ansI
          by_cases c0 : (mkT k).1 = 0
          · rw [if_pos c0, if_pos c0, if_pos rfl]
            exact ⟨_, _, _, _, rfl, rfl, hR⟩
          · have hlen := hml.2 c0
            have e1 : (nI (k / 4 + 1) - (1 : Int32)) * (4 : Int32) + nI (k % 4) = nI k := by
              rw [nI_pred, show (4 : Int32) = nI 4 from rfl, pk_mul, nI_add]
              congr 1
              omega
            have e5 : nI k * (5 : Int32) + nI i = nI (5 * k + i) := by rw [show (5 : Int32) = nI 5 from rfl, pk_mul, nI_add, Nat.mul_comm]
            unfold f_X7_markOf
            rw [if_neg c0, if_neg c0, if_neg (show ¬ nI (mkT k).1 = -4 from fun e => by
              have := congrArg Int32.toInt e
              rw [nI_toInt (by omega), show (-4 : Int32).toInt = -4 from rfl] at this
              omega), if_pos (show (0 : Int32) ≤ nI i from nI_pos' (by omega)), inBn (show i < 5 by omega) (by omega), gd_t, ixn (show i < 2 ^ 31 by omega), b3 c0 i (by omega), e1, e5, inBn (show 5 * k + i < 100 by omega) (by omega), gd_t, ixn (show 5 * k + i < 2 ^ 31 by omega), show S1 66 (5 * k + i) = _ from a2.2 c0 i (by omega), sb]
            exact ⟨_, _, _, _, rfl, rfl, hR⟩
      · rw [if_neg c3, if_pos (show nI 0 = (0 : Int32) from rfl)]
        by_cases c4 : v3.toInt < -1
        · rw [if_pos c4]
          exact ⟨_, _, _, _, rfl, rfl, h⟩
        · rw [if_neg c4, if_neg (show ¬ v3.toInt < ((k / 4 + 1 : Nat) : Int) by omega)]
          exact ⟨_, _, _, _, rfl, rfl, h⟩
  · rw [if_neg c1, if_pos (show nI 0 = (0 : Int32) from rfl)]
    by_cases c2 : v1.toInt < 1
    · rw [if_pos c2]
      exact ⟨_, _, _, _, rfl, rfl, h⟩
    · rw [if_neg c2, if_pos (show 5 < v1.toInt by omega)]
      exact ⟨_, _, _, _, rfl, rfl, h⟩
