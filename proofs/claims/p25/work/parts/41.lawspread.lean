section KVL41
theorem kv_tk2 {kc qm : Nat → Int32} {r m : Nat} {w : Nat} (e : kc m = nI w) (hw : w ≤ 64) : kv_tk kc qm r m = if qm r = 1 then max 4 w else 1 := by
  unfold kv_tk
  rw [e, nI_toInt (by omega)]
  rfl
section SPR
variable (lm lr : Nat → Int32) (kc : Nat → Int32) (fo : Nat → Nat → Int32) (qp qm qv hs : Nat → Int32) (r p cnt : Nat)
/-- what the law's rows must hold of the keeper's right r -/
def u_R : Prop := r < 10 ∧ p < 2 ∧ lr (6 * r) = nI p ∧ lr (6 * r + 1) = qm r ∧ lr (6 * r + 2) = nI cnt ∧ lr (6 * r + 4) = qv r ∧ qp r = nI p ∧ (qm r = 0 ∨ qm r = 1) ∧ cnt ≤ 500 ∧ (∀ i, i < 5 → lm (4 * i + 1) = hs i) ∧ (∀ i, i < 5 → lm (4 * i + 2 + p) = fo i p) ∧ (∀ i, 5 ≤ i → i < 8 → fo i p = 0) ∧ (∀ i, i < 5 → lm (4 * i) = kc i) ∧ (∀ i, i < 8 → 1 ≤ kc i ∧ kc i ≤ 64)
theorem u_80 (h : u_R lm lr kc fo qp qm qv hs r p cnt) (s : Int32) (k6) (k22 : Int32 → Int32 → Int32 → Int32 → Int32 → Option Int32) (x4 x5 : Int32) (S O m z : Nat) (hm : m < 5) (hO : O < 256) : pf_L_spreads_80 lm lr s (nI r) k6 k22 x4 x5 (nI O) (nI m) (nI S) (nI z) = k22 x4 x5 (nI (S + z)) (nI (O ||| kv_cv fo qp qm qv hs r (nI m))) (nI (m + 1)) := by
  obtain ⟨h1, h2, h3, h4, h5, h6, h7, h8, h9, h10, h11, h12, h13, h14⟩ := h
  have hc := u_cov lm lr fo qp qm qv hs r p m h1 h2 h3 h4 h6 h7 h10 h11 h12
  have hl := kv_cv_lt fo qp qm qv hs r (nI m)
  unfold pf_L_spreads_80
  rw [kv_T_s, nI_add, hc, kv_q1_s, kv_T_s, kv_or32 (by omega) (by omega), nI_1]
theorem u_59 (h : u_R lm lr kc fo qp qm qv hs r p cnt) (s : Int32) (k6) (k22 : Int32 → Int32 → Int32 → Int32 → Int32 → Option Int32) (x4 x5 : Int32) (S O m z w : Nat) (hm : m < 5) (hO : O < 256) (hw : kc m = nI w) (hw2 : w ≤ 64) (hz : z = max 4 w) : pf_L_spreads_59 lm lr s (nI r) k6 k22 x4 x5 (nI S) (nI O) (nI m) (nI z) = k22 x4 x5 (nI (S + kv_tk kc qm r m)) (nI (O ||| kv_cv fo qp qm qv hs r (nI m))) (nI (m + 1)) := by
  obtain ⟨h1, h2, h3, h4, h5, h6, h7, h8, h9⟩ := id h
  unfold pf_L_spreads_59
  rw [kv_6i, nI_1, kv_gN (show 6 * r + 1 < 60 by omega) (by omega), kv_T_s, nI_clamp (show 6 * r + 1 < 2 ^ 31 by omega), h4, kv_tk2 hw hw2]
  rcases h8 with e | e
  · rw [e, if_pos rfl, if_neg (show ¬ ((0 : Int32) = 1) by decide)]
    exact u_80 lm lr kc fo qp qm qv hs r p cnt h s k6 k22 x4 x5 S O m 1 hm hO
  · rw [e, if_neg (show ¬ ((1 : Int32) = 0) by decide), if_pos rfl, hz]
    exact u_80 lm lr kc fo qp qm qv hs r p cnt h s k6 k22 x4 x5 S O m (max 4 w) hm hO
theorem u_22 (h : u_R lm lr kc fo qp qm qv hs r p cnt) (s : Int32) (k6) (x4 : Int32) (U : Nat) (hU : U < 32) : ∀ (k f m : Nat), m + k = 5 → k < f → pf_L_spreads_22 lm lr s (nI r) k6 f x4 (nI U) (nI (kv_S (kv_tk kc qm r) U m)) (nI (kv_O (fun j => kv_cv fo qp qm qv hs r (nI j)) U m)) (nI m) = pf_L_spreads_105 lm lr s (nI r) k6 kv_F x4 (nI U) (nI (kv_S (kv_tk kc qm r) U 5)) (nI (kv_O (fun j => kv_cv fo qp qm qv hs r (nI j)) U 5)) 0 := by
  intro k
  induction k with
  | zero =>
    intro f m hi hf
    obtain ⟨f, rfl⟩ : ∃ z, f = z + 1 := ⟨f - 1, by omega⟩
    have e : m = 5 := by omega
    rw [pf_L_spreads_22.eq_2, e]
    unfold pf_L_spreads_22b
    rw [if_pos ((kv_ge5 (i := 5) (by omega)).mpr (by omega))]
  | succ k ih =>
    intro f m hi hf
    obtain ⟨f, rfl⟩ : ∃ z, f = z + 1 := ⟨f - 1, by omega⟩
    have hm : m < 5 := by omega
    obtain ⟨h1, h2, h3, h4, h5, h6, h7, h8, h9, h10, h11, h12, h13, h14⟩ := id h
    obtain ⟨d1, d2⟩ := kv_tk_n (h14 m (by omega)).1 (h14 m (by omega)).2
    have hO : kv_O (fun j => kv_cv fo qp qm qv hs r (nI j)) U m < 256 := kv_O_lt m (fun j _ => kv_cv_lt _ _ _ _ _ _ _)
    have hS1 : kv_S (kv_tk kc qm r) U (m + 1) = kv_S (kv_tk kc qm r) U m + (if U.testBit m = true then kv_tk kc qm r m else 0) := rfl
    have hO1 : kv_O (fun j => kv_cv fo qp qm qv hs r (nI j)) U (m + 1) = kv_O (fun j => kv_cv fo qp qm qv hs r (nI j)) U m ||| (if U.testBit m = true then kv_cv fo qp qm qv hs r (nI m) else 0) := rfl
    have hk := ih f (m + 1) (by omega) (by omega)
    rw [pf_L_spreads_22.eq_2]
    unfold pf_L_spreads_22b
    rw [if_neg (fun d => by have := (kv_ge5 (by omega)).mp d; omega), kv_shr (by omega) (by omega)]
    cases b : U.testBit m with
    | false =>
      rw [hS1, hO1, b, if_neg (by decide), if_neg (by decide), Nat.or_zero, Nat.add_zero] at hk
      rw [if_neg (by rw [if_neg (by decide)]; decide), nI_1]
      exact hk
    | true =>
      rw [hS1, hO1, b, if_pos rfl, if_pos rfl] at hk
      rw [if_pos (if_pos rfl), kv_4i, kv_gN (show 4 * m < 20 by omega) (by omega), kv_T_s, nI_clamp (show 4 * m < 2 ^ 31 by omega), h13 m hm, d1]
      have h59 := u_59 lm lr kc fo qp qm qv hs r p cnt h s k6 (pf_L_spreads_22 lm lr s (nI r) k6 f) x4 (nI U) (kv_S (kv_tk kc qm r) U m) (kv_O (fun j => kv_cv fo qp qm qv hs r (nI j)) U m) m (max 4 (kc m).toInt.toNat) _ hm hO d1 d2 rfl
      rw [← hk, ← h59]
      have h4' : nI (kc m).toInt.toNat ≤ 4 ↔ (kc m).toInt.toNat ≤ 4 := nI_leI (b := 4) (by omega) (by decide)
      by_cases c : (kc m).toInt.toNat ≤ 4
      · rw [if_pos (h4'.mpr c), Nat.max_eq_left c]
        exact Eq.refl _
      · rw [if_neg (fun q => c (h4'.mp q)), kv_gN (show 4 * m < 20 by omega) (by omega), kv_T_s, Nat.max_eq_right (by omega)]
theorem u_105 (h : u_R lm lr kc fo qp qm qv hs r p cnt) (s : Int32) (k6) (x5 : Int32) (T C : Nat) (hC : C < 32) (hT : T ≤ cnt) : ∀ (k f i : Nat) (x4 : Int32), i + k = 32 → k < f → ∃ z, pf_L_spreads_105 lm lr s (nI r) k6 f x4 x5 (nI T) (nI C) (nI i) = k6 z (x5 + 1) ∧ ∀ S, S < 32 → (kv_bt z S = true ↔ (kv_bt x4 S = true ∨ ∃ a, i ≤ a ∧ a < 32 ∧ kv_bt s a = true ∧ a ||| C = S)) := by
  intro k
  induction k with
  | zero =>
    intro f i x4 hi hf
    obtain ⟨f, rfl⟩ : ∃ z, f = z + 1 := ⟨f - 1, by omega⟩
    refine ⟨x4, ?_, fun S hS => ⟨Or.inl, fun q => q.elim id (fun ⟨a, q1, q2, _⟩ => by omega)⟩⟩
    rw [pf_L_spreads_105.eq_2]
    unfold pf_L_spreads_105b
    rw [if_pos ((kv_ge32 (by omega)).mpr (by omega))]
  | succ k ih =>
    intro f i x4 hi hf
    obtain ⟨f, rfl⟩ : ∃ z, f = z + 1 := ⟨f - 1, by omega⟩
    have hi2 : i < 32 := by omega
    obtain ⟨h1, h2, h3, h4, h5, h6, h7, h8, h9, h10⟩ := id h
    have hor : i ||| C < 32 := Nat.or_lt_two_pow (n := 5) hi2 hC
    have step : pf_L_spreads_105 lm lr s (nI r) k6 (f + 1) x4 x5 (nI T) (nI C) (nI i) = pf_L_spreads_105 lm lr s (nI r) k6 f (x4 ||| (if kv_bt s i = true then 1 <<< (nI (i ||| C) &&& 31) else 0)) x5 (nI T) (nI C) (nI (i + 1)) := by
      rw [pf_L_spreads_105.eq_2]
      unfold pf_L_spreads_105b pf_L_spreads_148
      rw [if_neg (fun d => by have := (kv_ge32 (by omega)).mp d; omega), kv_6i, kv_a2, kv_gN (show 6 * r + 2 < 60 by omega) (by omega), kv_T_s, nI_clamp (show 6 * r + 2 < 2 ^ 31 by omega), h5, if_neg (fun q => by have := (nI_ltI (by omega) (by omega)).mp q; omega), kv_T_s, kv_T_s, nI_1, kv_or32 (by omega) (by omega)]
      by_cases c : kv_bt s i = true
      · rw [if_pos ((kv_shr1 s hi2).mpr c), if_pos c]
      · rw [if_neg (fun q => c ((kv_shr1 s hi2).mp q)), if_neg c]
    obtain ⟨z, z1, z2⟩ := ih f (i + 1) (x4 ||| (if kv_bt s i = true then 1 <<< (nI (i ||| C) &&& 31) else 0)) (by omega) (by omega)
    refine ⟨z, step.trans z1, fun S hS => ?_⟩
    rw [z2 S hS, kv_bt_or, Bool.or_eq_true]
    by_cases c : kv_bt s i = true
    · rw [if_pos c, kv_bt_shl _ hor S hS, decide_eq_true_iff]
      constructor
      · rintro ((q | q) | ⟨a, q1, q2⟩)
        · exact Or.inl q
        · exact Or.inr ⟨i, Nat.le_refl i, hi2, c, q.symm⟩
        · exact Or.inr ⟨a, by omega, q2⟩
      · rintro (q | ⟨a, q1, q2, q3, q4⟩)
        · exact Or.inl (Or.inl q)
        · by_cases e : a = i
          · exact Or.inl (Or.inr (by rw [← q4, e]))
          · exact Or.inr ⟨a, by omega, q2, q3, q4⟩
    · rw [if_neg c, kv_bt_0]
      constructor
      · rintro ((q | q) | ⟨a, q1, q2⟩)
        · exact Or.inl q
        · cases q
        · exact Or.inr ⟨a, by omega, q2⟩
      · rintro (q | ⟨a, q1, q2, q3, q4⟩)
        · exact Or.inl (Or.inl q)
        · have : a ≠ i := fun e => c (by rw [← e]; exact q3)
          exact Or.inr ⟨a, by omega, q2, q3, q4⟩
theorem u_105n (h : u_R lm lr kc fo qp qm qv hs r p cnt) (s : Int32) (k6) (x4 x5 : Int32) (T : Nat) (y : Int32) (hT : cnt < T) (hT2 : T < 2 ^ 31) : pf_L_spreads_105 lm lr s (nI r) k6 kv_F x4 x5 (nI T) y 0 = k6 x4 (x5 + 1) := by
  obtain ⟨h1, h2, h3, h4, h5, h6, h7, h8, h9, h10⟩ := id h
  rw [kv_FS, pf_L_spreads_105.eq_2]
  unfold pf_L_spreads_105b
  rw [if_neg (show ¬ ((32 : Int32) ≤ 0) by decide), kv_6i, kv_a2, kv_gN (show 6 * r + 2 < 60 by omega) (by omega), kv_T_s, nI_clamp (show 6 * r + 2 < 2 ^ 31 by omega), h5, if_pos ((nI_ltI (by omega) hT2).mpr hT)]
theorem kv_O_lt5 {c : Nat → Nat} {U : Nat} : ∀ m, (∀ j, j < m → c j < 32) → kv_O c U m < 32 := by
  intro m
  induction m with
  | zero => intro _; exact Nat.zero_lt_succ 31
  | succ m ih =>
    intro h
    unfold kv_O
    refine Nat.or_lt_two_pow (n := 5) (ih (fun j hj => h j (by omega))) ?_
    split
    · exact h m (by omega)
    · decide
theorem u_6 (h : u_R lm lr kc fo qp qm qv hs r p cnt) (s : Int32) : ∀ (k f U : Nat) (x4 : Int32), U + k = 32 → k < f → ∃ z, pf_L_spreads_6 lm lr s (nI r) f x4 (nI U) = some z ∧ ∀ S, S < 32 → (kv_bt z S = true ↔ (kv_bt x4 S = true ∨ ∃ V a, U ≤ V ∧ V < 32 ∧ a < 32 ∧ kv_bt s a = true ∧ kv_S (kv_tk kc qm r) V 5 ≤ cnt ∧ a ||| kv_O (fun j => kv_cv fo qp qm qv hs r (nI j)) V 5 = S)) := by
  intro k
  induction k with
  | zero =>
    intro f U x4 hi hf
    obtain ⟨f, rfl⟩ : ∃ z, f = z + 1 := ⟨f - 1, by omega⟩
    refine ⟨x4, ?_, fun S hS => ⟨Or.inl, fun q => q.elim id (fun ⟨V, a, q1, q2, _⟩ => by omega)⟩⟩
    rw [pf_L_spreads_6.eq_2]
    unfold pf_L_spreads_6b
    rw [if_pos ((kv_ge32 (by omega)).mpr (by omega))]
  | succ k ih =>
    intro f U x4 hi hf
    obtain ⟨f, rfl⟩ : ∃ z, f = z + 1 := ⟨f - 1, by omega⟩
    have hU : U < 32 := by omega
    obtain ⟨h1, h2, h3, h4, h5, h6, h7, h8, h9, h10, h11, h12, h13, h14⟩ := id h
    have h22 := u_22 lm lr kc fo qp qm qv hs r p cnt h s (pf_L_spreads_6 lm lr s (nI r) f) x4 U hU 5 kv_F 0 (by omega) (kv_Fgt (by omega))
    have z1 : nI (kv_S (kv_tk kc qm r) U 0) = 0 := rfl
    have z2 : nI (kv_O (fun j => kv_cv fo qp qm qv hs r (nI j)) U 0) = 0 := rfl
    rw [z1, z2, nI_0] at h22
    have step : pf_L_spreads_6 lm lr s (nI r) (f + 1) x4 (nI U) = pf_L_spreads_105 lm lr s (nI r) (pf_L_spreads_6 lm lr s (nI r) f) kv_F x4 (nI U) (nI (kv_S (kv_tk kc qm r) U 5)) (nI (kv_O (fun j => kv_cv fo qp qm qv hs r (nI j)) U 5)) 0 := by
      rw [pf_L_spreads_6.eq_2]
      unfold pf_L_spreads_6b
      rw [if_neg (fun d => by have := (kv_ge32 (by omega)).mp d; omega)]
      exact h22
    have hC : kv_O (fun j => kv_cv fo qp qm qv hs r (nI j)) U 5 < 32 := kv_O_lt5 5 (fun j _ => kv_cv32 h2 h7 h12)
    by_cases hT : kv_S (kv_tk kc qm r) U 5 ≤ cnt
    · obtain ⟨y, y1, y2⟩ := u_105 lm lr kc fo qp qm qv hs r p cnt h s (pf_L_spreads_6 lm lr s (nI r) f) (nI U) _ _ hC hT 32 kv_F 0 x4 (by omega) (kv_Fgt (by omega))
      rw [nI_0, nI_1] at y1
      obtain ⟨z, g1, g2⟩ := ih f (U + 1) y (by omega) (by omega)
      refine ⟨z, step.trans (y1.trans g1), fun S hS => ?_⟩
      rw [g2 S hS, y2 S hS]
      constructor
      · rintro ((q | ⟨a, q1, q2, q3, q4⟩) | ⟨V, a, q1, q2⟩)
        · exact Or.inl q
        · exact Or.inr ⟨U, a, Nat.le_refl U, hU, q2, q3, hT, q4⟩
        · exact Or.inr ⟨V, a, by omega, q2⟩
      · rintro (q | ⟨V, a, q1, q2, q3, q4, q5, q6⟩)
        · exact Or.inl (Or.inl q)
        · by_cases e : V = U
          · rw [e] at q6
            exact Or.inl (Or.inr ⟨a, Nat.zero_le a, q3, q4, q6⟩)
          · exact Or.inr ⟨V, a, by omega, q2, q3, q4, q5, q6⟩
    · have hb : kv_S (kv_tk kc qm r) U 5 ≤ 64 * 5 := by
        have key : ∀ m, m ≤ 5 → kv_S (kv_tk kc qm r) U m ≤ 64 * m := by
          intro m
          induction m with
          | zero => intro _; exact Nat.le_refl 0
          | succ m ih2 =>
            intro hm
            have a1 := ih2 (by omega)
            have a2 := (kv_tk_le (qm := qm) (r := r) (h14 m (by omega)).2).1
            unfold kv_S
            split <;> omega
        exact key 5 (Nat.le_refl 5)
      have y1 := u_105n lm lr kc fo qp qm qv hs r p cnt h s (pf_L_spreads_6 lm lr s (nI r) f) x4 (nI U) (kv_S (kv_tk kc qm r) U 5) (nI (kv_O (fun j => kv_cv fo qp qm qv hs r (nI j)) U 5)) (by omega) (by omega)
      rw [nI_1] at y1
      obtain ⟨z, g1, g2⟩ := ih f (U + 1) x4 (by omega) (by omega)
      refine ⟨z, step.trans (y1.trans g1), fun S hS => ?_⟩
      rw [g2 S hS]
      constructor
      · rintro (q | ⟨V, a, q1, q2⟩)
        · exact Or.inl q
        · exact Or.inr ⟨V, a, by omega, q2⟩
      · rintro (q | ⟨V, a, q1, q2, q3, q4, q5, q6⟩)
        · exact Or.inl q
        · have : V ≠ U := fun e => hT (by rw [← e]; exact q5)
          exact Or.inr ⟨V, a, by omega, q2, q3, q4, q5, q6⟩
theorem kv_m32 : ∀ U, U < 256 → ∀ j, j < 8 → (U % 32).testBit j = (U.testBit j && decide (j < 5)) := by decide +kernel
theorem kv_S_58 {t : Nat → Nat} {U : Nat} (hU : U < 256) : kv_S t (U % 32) 5 ≤ kv_S t U 8 ∧ kv_S t (U % 32) 8 = kv_S t (U % 32) 5 := by
  have e1 : kv_S t (U % 32) 5 = kv_S t U 5 := kv_S_c 5 (fun j hj => by rw [kv_m32 U hU j (by omega), decide_eq_true hj, Bool.and_true])
  have hlt : U % 32 < 2 ^ 5 := Nat.mod_lt _ (by decide)
  refine ⟨?_, ?_⟩
  · rw [e1]
    show kv_S t U 5 ≤ kv_S t U 5 + _ + _ + _
    omega
  · rw [kv_S_lo (show U % 32 < 2 ^ 7 by omega), kv_S_lo (show U % 32 < 2 ^ 6 by omega), kv_S_lo hlt]
theorem kv_O_58 {c : Nat → Nat} {U : Nat} (hU : U < 256) (hc : ∀ j, 5 ≤ j → j < 8 → c j = 0) : kv_O c U 8 = kv_O c (U % 32) 5 := by
  have e1 : kv_O c (U % 32) 5 = kv_O c U 5 := kv_O_c 5 (fun j hj => by rw [kv_m32 U hU j (by omega), decide_eq_true hj, Bool.and_true])
  rw [e1]
  show ((kv_O c U 5 ||| (if U.testBit 5 = true then c 5 else 0)) ||| (if U.testBit 6 = true then c 6 else 0)) ||| (if U.testBit 7 = true then c 7 else 0) = _
  rw [hc 5 (by omega) (by omega), hc 6 (by omega) (by omega), hc 7 (by omega) (by omega), ite_self, ite_self, ite_self, Nat.or_zero, Nat.or_zero, Nat.or_zero]
theorem kv_step_32 {t c : Nat → Nat} {x : Nat} {R : Nat → Prop} (hc : ∀ j, 5 ≤ j → j < 8 → c j = 0) (hR : ∀ S, S < 256 → R S → S < 32) (S : Nat) : kv_step t c x R S ↔ ∃ V a, V < 32 ∧ a < 32 ∧ R a ∧ kv_S t V 5 ≤ x ∧ a ||| kv_O c V 5 = S := by
  constructor
  · rintro ⟨a, U, q1, q2, q3, q4, q5⟩
    refine ⟨U % 32, a, Nat.mod_lt _ (by decide), hR a q1 q3, q3, Nat.le_trans (kv_S_58 q2).1 q4, ?_⟩
    rw [← kv_O_58 q2 hc]
    exact q5
  · rintro ⟨V, a, q1, q2, q3, q4, q5⟩
    have e : V % 32 = V := Nat.mod_eq_of_lt q1
    have h1 := (kv_S_58 (t := t) (U := V) (by omega)).2
    have h2 := kv_O_58 (c := c) (U := V) (by omega) hc
    rw [e] at h1 h2
    exact ⟨a, V, by omega, by omega, q3, by rw [h1]; exact q4, by rw [h2]; exact q5⟩
theorem kv_cv0 {fo : Nat → Nat → Int32} {qp qm qv hs : Nat → Int32} {r p j : Nat} (hp : p < 2) (eq : qp r = nI p) (h5 : ∀ i, 5 ≤ i → i < 8 → fo i p = 0) (hh : ∀ i, i < 5 → ¬ hs i = nI j) (hj : 5 ≤ j) (hj2 : j < 8) : kv_cv fo qp qm qv hs r (nI j) = 0 := by
  rw [kv_cv5 hp eq h5]
  refine kv_or_no 5 0 0 (fun i h1 h2 => ?_)
  unfold kv_cb
  rw [decide_eq_false (fun q => by have := (nI_eq (by omega) (by omega)).mp q; omega), decide_eq_false (hh i (by omega))]
  simp
/-- what can be covered with one right more -/
theorem u_spr (h : u_R lm lr kc fo qp qm qv hs r p cnt) (hh : ∀ i j, i < 5 → 5 ≤ j → j < 8 → ¬ hs i = nI j) (s : Int32) (R : Nat → Prop) (hs1 : ∀ S, S < 32 → (kv_bt s S = true ↔ R S)) (hR : ∀ S, S < 256 → R S → S < 32) : ∃ z, pf_L_spreads lm lr s (nI r) = some z ∧ (∀ S, S < 32 → (kv_bt z S = true ↔ kv_step (kv_tk kc qm r) (fun j => kv_cv fo qp qm qv hs r (nI j)) cnt R S)) ∧ ∀ S, S < 256 → kv_step (kv_tk kc qm r) (fun j => kv_cv fo qp qm qv hs r (nI j)) cnt R S → S < 32 := by
  obtain ⟨z, z1, z2⟩ := u_6 lm lr kc fo qp qm qv hs r p cnt h s 32 kv_F 0 0 (by omega) (kv_Fgt (by omega))
  obtain ⟨h1, h2, h3, h4, h5, h6, h7, h8, h9, h10, h11, h12, h13, h14⟩ := id h
  have hc : ∀ j, 5 ≤ j → j < 8 → (fun j => kv_cv fo qp qm qv hs r (nI j)) j = 0 := fun j a b => kv_cv0 h2 h7 h12 (fun i hi => hh i j hi a b) a b
  rw [nI_0] at z1
  refine ⟨z, z1, fun S hS => ?_, fun S hS q => ?_⟩
  · rw [z2 S hS, kv_step_32 hc hR, kv_bt_0]
    constructor
    · rintro (q | ⟨V, a, q1, q2, q3, q4, q5, q6⟩)
      · cases q
      · exact ⟨V, a, q2, q3, (hs1 a q3).mp q4, q5, q6⟩
    · rintro ⟨V, a, q2, q3, q4, q5, q6⟩
      exact Or.inr ⟨V, a, Nat.zero_le V, q2, q3, (hs1 a q3).mpr q4, q5, q6⟩
  · obtain ⟨V, a, q2, q3, q4, q5, q6⟩ := (kv_step_32 hc hR S).mp q
    rw [← q6]
    exact Nat.or_lt_two_pow (n := 5) q3 (kv_O_lt5 5 (fun j _ => kv_cv32 h2 h7 h12))
end SPR
end KVL41
