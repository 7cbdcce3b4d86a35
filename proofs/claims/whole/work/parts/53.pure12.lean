section KVP12
theorem kv_reach_S (use : Nat → Bool) (t c : Nat → Nat → Nat) (cnt : Nat → Nat) (i k : Nat) (R : Nat → Prop) : kv_reach use t c cnt i (k + 1) R = kv_reach use t c cnt (i + 1) k (match use i with | true => kv_step (t i) (c i) (cnt i) R | false => R) := by
  unfold kv_reach
  cases k <;> rfl
theorem kv_step_k {t c : Nat → Nat} {cnt : Nat} {R : Nat → Prop} {cn : Nat → Int32} (hcn : ∀ S, S < 256 → (¬ cn S = 0 ↔ R S)) (S : Nat) : (∃ q, q < 65536 ∧ ¬ cn (q / 256) = 0 ∧ kv_S t (q % 256) 8 ≤ cnt ∧ q / 256 ||| kv_O c (q % 256) 8 = S) ↔ kv_step t c cnt R S := by
  constructor
  · rintro ⟨q, q1, q2, q3, q4⟩
    have h1 : q / 256 < 256 := by omega
    exact ⟨q / 256, q % 256, h1, Nat.mod_lt _ (by omega), (hcn _ h1).mp q2, q3, q4⟩
  · rintro ⟨a, U, a1, a2, a3, a4, a5⟩
    refine ⟨a * 256 + U, by omega, ?_, ?_, ?_⟩
    · rw [show (a * 256 + U) / 256 = a by omega]; exact (hcn a a1).mpr a3
    · rw [show (a * 256 + U) % 256 = U by omega]; exact a4
    · rw [show (a * 256 + U) / 256 = a by omega, show (a * 256 + U) % 256 = U by omega]; exact a5
theorem kv_S_le64 {t : Nat → Nat} {U : Nat} (h : ∀ j, j < 8 → t j ≤ 64) : kv_S t U 8 ≤ 1000 := by
  have key : ∀ m, m ≤ 8 → kv_S t U m ≤ 64 * m := by
    intro m
    induction m with
    | zero => intro _; exact Nat.le_refl 0
    | succ m ih =>
      intro hm
      have h1 := ih (by omega)
      have h2 := h m (by omega)
      unfold kv_S
      split <;> omega
  have := key 8 (Nat.le_refl 8)
  omega
theorem kv_bin {x : Int32} (h : x = 0 ∨ x = 1) : ¬ x = 0 ↔ x = 1 := by
  rcases h with h | h
  · rw [h]; decide
  · rw [h]; decide
theorem kv_q2_s {A B β : Type} (a : A) (b : B) (k : A → B → Option β) : kv_q2 (some (a, b)) k = k a b := rfl
theorem kv_32_b (co ho ve pr rp rm rc ro : Nat → Int32) (p0 : Int32) (n i : Nat) (k2) (cn tn tk sp : Nat → Int32) (ba : Int32) (hn : n ≤ 12) (hi : i < n) : pf_X3_least_32b co ho ve pr (nI n) rp rm rc ro p0 k2 (nI i) cn tn tk sp ba = kv_G (nI i) 12 (kv_T (rp (nI i).toNatClampNeg) (fun y_45 => if y_45 = p0 then kv_G (nI i) 12 (kv_T (rc (nI i).toNatClampNeg) (fun y_55 => if y_55 ≤ 0 then k2 (nI i + 1) cn tn tk sp ba else kv_q2 (pf_X3_spreads co ho ve rp rm ro (nI i) tk sp) (fun o0_61 o1_61 => pf_X3_least_66 co ho ve pr (nI n) rp rm rc ro p0 k2 kv_F (nI i) 0 cn tn o0_61 o1_61 ba))) else k2 (nI i + 1) cn tn tk sp ba)) := by
  unfold pf_X3_least_32b
  rw [if_neg (fun d => by have := (kv_leN hn (by omega)).mp d; omega)]
theorem kv_32_c {β : Type} (rp rc : Nat → Int32) (p0 : Int32) (i : Nat) (hi : i < 12) (a b X : Option β) : kv_G (nI i) 12 (kv_T (rp (nI i).toNatClampNeg) (fun y_45 => if y_45 = p0 then kv_G (nI i) 12 (kv_T (rc (nI i).toNatClampNeg) (fun y_55 => if y_55 ≤ 0 then a else X)) else b)) = if rp i = p0 then if rc i ≤ 0 then a else X else b := by
  simp only [kv_T, nI_clamp (show i < 2 ^ 31 by omega), kv_gN hi (show i < 2 ^ 31 by omega)]
theorem kv_32_d (co ho ve pr rp rm rc ro : Nat → Int32) (p0 : Int32) (n i : Nat) (k2) (cn tn tk sp : Nat → Int32) (ba : Int32) (hn : n ≤ 12) (hi : i < n) (qp : Nat → Int32) (s3 : rp i = qp i) : pf_X3_least_32b co ho ve pr (nI n) rp rm rc ro p0 k2 (nI i) cn tn tk sp ba = (if qp i = p0 then if rc i ≤ 0 then k2 (nI (i + 1)) cn tn tk sp ba else kv_q2 (pf_X3_spreads co ho ve rp rm ro (nI i) tk sp) (fun o0_61 o1_61 => pf_X3_least_66 co ho ve pr (nI n) rp rm rc ro p0 k2 kv_F (nI i) 0 cn tn o0_61 o1_61 ba) else k2 (nI (i + 1)) cn tn tk sp ba) := by
  rw [kv_32_b co ho ve pr rp rm rc ro p0 n i k2 cn tn tk sp ba hn hi, ← s3, ← nI_1]
  exact kv_32_c rp rc p0 i (by omega) _ _ _
theorem q_32 {kc : Nat → Int32} {fo : Nat → Nat → Int32} {qp qm qv hs : Nat → Int32} {co ho ve rp rm ro : Nat → Int32} (pr rc : Nat → Int32) (p0 : Int32) (n : Nat) (ba : Int32) (hn : n ≤ 12) (hsm : ∀ r, r < n → kv_same kc fo qp qm qv hs r co ho ve rp rm ro) (hqc : ∀ i, i < n → 0 ≤ rc i ∧ rc i ≤ 500) : ∀ (k f i : Nat) (cn tn tk sp : Nat → Int32) (R : Nat → Prop), i + k = n → k < f → (∀ S, S < 256 → (cn S = 0 ∨ cn S = 1) ∧ (cn S = 1 ↔ R S)) → tk 0 = 0 → sp 0 = 0 →
    ∃ cn' tn' tk' sp', pf_X3_least_32 co ho ve pr (nI n) rp rm rc ro p0 f (nI i) cn tn tk sp ba = pf_X3_least_191 co ho ve pr (nI n) rp rm rc ro p0 kv_F 0 0 cn' tn' tk' sp' ba ∧ (∀ S, S < 256 → (cn' S = 0 ∨ cn' S = 1) ∧ (cn' S = 1 ↔ kv_reach (kv_use qp rc p0 (-1)) (kv_tk kc qm) (fun r j => kv_cv fo qp qm qv hs r (nI j)) (fun r => (rc r).toInt.toNat) i k R S)) ∧ tk' 0 = 0 ∧ sp' 0 = 0 := by
  intro k
  induction k with
  | zero =>
    intro f i cn tn tk sp R hi hf h1 h2 h3
    obtain ⟨f, rfl⟩ : ∃ z, f = z + 1 := ⟨f - 1, by omega⟩
    refine ⟨cn, tn, tk, sp, ?_, h1, h2, h3⟩
    rw [pf_X3_least_32.eq_2]
    unfold pf_X3_least_32b
    rw [if_pos ((kv_leN hn (by omega)).mpr (by omega))]
  | succ k ih =>
    intro f i cn tn tk sp R hi hf h1 h2 h3
    obtain ⟨f, rfl⟩ : ∃ z, f = z + 1 := ⟨f - 1, by omega⟩
    have hin : i < n := by omega
    have hne : ¬ nI i = -1 := fun c => by
      have := congrArg Int32.toInt c
      rw [nI_toInt (by omega), kv_in1] at this
      omega
    obtain ⟨s1, s2, s3, s4, s5, s6, s7⟩ := id (hsm i hin)
    have pre := fun k2 => kv_32_d co ho ve pr rp rm rc ro p0 n i k2 cn tn tk sp ba hn hin qp s3
    by_cases c2 : qp i = p0
    · by_cases c3 : rc i ≤ 0
      · have hu : kv_use qp rc p0 (-1) i = false := by unfold kv_use; rw [decide_eq_true c3]; simp
        obtain ⟨a, b, d, e, g1, g2, g3, g4⟩ := ih f (i + 1) cn tn tk sp R (by omega) (by omega) h1 h2 h3
        refine ⟨a, b, d, e, ?_, ?_, g3, g4⟩
        · rw [pf_X3_least_32.eq_2, pre, if_pos c2, if_pos c3]; exact g1
        · rw [kv_reach_S, hu]; exact g2
      · have hu : kv_use qp rc p0 (-1) i = true := by unfold kv_use; rw [decide_eq_true c2, decide_eq_false c3, decide_eq_false hne]; rfl
        obtain ⟨tk', sp', g1, g2⟩ := q_spreads (hsm i hin) tk sp h2 h3
        obtain ⟨e1, e2⟩ := kv_cntN (hqc i hin).1 (hqc i hin).2
        have hT : ∀ U, U < 256 → tk' U = nI (kv_S (kv_tk kc qm i) U 8) ∧ kv_S (kv_tk kc qm i) U 8 ≤ 1000 := fun U hU => ⟨(g2 U hU).1, kv_S_le64 (fun j hj => (kv_tk_le (s6 j hj).2.2.2).1)⟩
        have hC : ∀ U, U < 256 → sp' U = nI (kv_O (fun j => kv_cv fo qp qm qv hs i (nI j)) U 8) ∧ kv_O (fun j => kv_cv fo qp qm qv hs i (nI j)) U 8 < 256 := fun U hU => ⟨(g2 U hU).2, kv_O_lt 8 (fun j _ => kv_cv_lt _ _ _ _ _ _ _)⟩
        obtain ⟨tn1, w1, w2⟩ := q_66 co ho ve pr (nI n) rp rm rc ro p0 (pf_X3_least_32 co ho ve pr (nI n) rp rm rc ro p0 f) i cn tk' sp' ba 256 kv_F 0 tn (by omega) (kv_Fgt (by omega)) (fun S hS => absurd hS (Nat.not_lt_zero S))
        obtain ⟨tn2, w3, w4⟩ := q_88 co ho ve pr (nI n) rp rm rc ro p0 (pf_X3_least_32 co ho ve pr (nI n) rp rm rc ro p0 f) i cn tk' sp' ba _ _ _ s1 hT hC e1 e2 65536 kv_F 0 tn1 (by omega) (kv_Fgt (by omega)) (fun S hS => ⟨Or.inl (w2 S hS), ⟨fun c => by rw [w2 S hS] at c; exact absurd c (by decide), fun ⟨q, q1, _⟩ => absurd q1 (Nat.not_lt_zero q)⟩⟩)
        obtain ⟨cn1, w5, w6⟩ := q_156 co ho ve pr (nI n) rp rm rc ro p0 (pf_X3_least_32 co ho ve pr (nI n) rp rm rc ro p0 f) i tn2 tk' sp' ba (fun S hS => (w4 S hS).1) 256 kv_F 0 cn (by omega) (kv_Fgt (by omega)) (fun S hS => absurd hS (Nat.not_lt_zero S))
        rw [nI_0] at w1 w3 w5
        have hz : tk' 0 = 0 ∧ sp' 0 = 0 := by
          have := g2 0 (by omega)
          rw [kv_S0, kv_O0] at this
          exact this
        obtain ⟨a, b, d, e, v1, v2, v3, v4⟩ := ih f (i + 1) cn1 tn2 tk' sp' (kv_step (kv_tk kc qm i) (fun j => kv_cv fo qp qm qv hs i (nI j)) ((rc i).toInt.toNat) R) (by omega) (by omega) (fun S hS => by
          rw [w6 S hS]
          refine ⟨(w4 S hS).1, (w4 S hS).2.trans ?_⟩
          exact kv_step_k (fun V hV => (kv_bin (h1 V hV).1).trans (h1 V hV).2) S) hz.1 hz.2
        refine ⟨a, b, d, e, ?_, ?_, v3, v4⟩
        · have e32 : pf_X3_least_32 co ho ve pr (nI n) rp rm rc ro p0 (f + 1) (nI i) cn tn tk sp ba = pf_X3_least_66 co ho ve pr (nI n) rp rm rc ro p0 (pf_X3_least_32 co ho ve pr (nI n) rp rm rc ro p0 f) kv_F (nI i) 0 cn tn tk' sp' ba := by
            rw [pf_X3_least_32.eq_2, pre, if_pos c2, if_neg c3, g1]
            exact kv_q2_s tk' sp' _
          exact e32.trans (w1.trans (w3.trans (w5.trans v1)))
        · rw [kv_reach_S, hu]; exact v2
    · have hu : kv_use qp rc p0 (-1) i = false := by unfold kv_use; rw [decide_eq_false c2]; simp
      obtain ⟨a, b, d, e, g1, g2, g3, g4⟩ := ih f (i + 1) cn tn tk sp R (by omega) (by omega) h1 h2 h3
      refine ⟨a, b, d, e, ?_, ?_, g3, g4⟩
      · rw [pf_X3_least_32.eq_2, pre, if_neg c2]; exact g1
      · rw [kv_reach_S, hu]; exact g2
end KVP12
