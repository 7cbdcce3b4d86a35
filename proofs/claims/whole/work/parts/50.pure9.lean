section KVP9
def kv_step (t c : Nat → Nat) (cnt : Nat) (R : Nat → Prop) (S : Nat) : Prop := ∃ a U, a < 256 ∧ U < 256 ∧ R a ∧ kv_S t U 8 ≤ cnt ∧ a ||| kv_O c U 8 = S
def kv_two (v : Nat → Nat) : Prop := ∀ S, S < 256 → v S = 0 ∨ v S = 1000000
theorem q_one {mt mv tk : Nat → Int32} {t c v : Nat → Nat} {cnt : Nat} {R : Nat → Prop} (hm : ∀ j, j < 8 → mt j = nI (t j) ∧ t j ≤ 64 ∧ mv j = nI (c j) ∧ c j < 256) (hv : kv_is tk v) (h2 : kv_two v) (hR : ∀ S, S < 256 → (v S = 0 ↔ R S)) (hc : cnt ≤ 500) : ∃ u tk' v', pf_X0_layOpen mt mv tk = some u ∧ pf_X0_closeWithin (nI cnt) u = some tk' ∧ kv_is tk' v' ∧ kv_two v' ∧ ∀ S, S < 256 → (v' S = 0 ↔ kv_step t c cnt R S) := by
  obtain ⟨u, w, g1, g2, g3⟩ := q_lo mt mv t c hm tk v hv
  obtain ⟨tk', g4, g5⟩ := q_close hc g2
  refine ⟨u, tk', _, g1, g4, g5, fun S hS => ?_, fun S hS => ?_⟩
  · by_cases e : w S ≤ cnt
    · exact Or.inl (if_pos e)
    · exact Or.inr (if_neg e)
  · have e1 : (if w S ≤ cnt then 0 else 1000000) = 0 ↔ w S ≤ cnt := by split <;> omega
    rw [e1, g3 S hS cnt]
    constructor
    · rintro ⟨a, U, q1, q2, q3, q4⟩
      rcases h2 a q1 with q | q
      · exact ⟨a, U, q1, q2, (hR a q1).mp q, by omega, q4⟩
      · omega
    · rintro ⟨a, U, q1, q2, q3, q4, q5⟩
      have := (hR a q1).mpr q3
      exact ⟨a, U, q1, q2, by omega, q5⟩
noncomputable def kv_reach (use : Nat → Bool) (t c : Nat → Nat → Nat) (cnt : Nat → Nat) : Nat → Nat → (Nat → Prop) → (Nat → Prop)
  | _, 0, R => R
  | i, k + 1, R => kv_reach use t c cnt (i + 1) k (match use i with | true => kv_step (t i) (c i) (cnt i) R | false => R)
theorem kv_cntN {x : Int32} (h0 : 0 ≤ x) (h : x ≤ 500) : x = nI x.toInt.toNat ∧ x.toInt.toNat ≤ 500 := by
  obtain ⟨a, a1, a2⟩ := nI_of2 (n := 500) kv_i500 (Int32.not_lt.mpr h0) h
  rw [a2, nI_toInt (by omega)]
  exact ⟨rfl, a1⟩
def kv_use (qp qc : Nat → Int32) (p1 p0 : Int32) (i : Nat) : Bool := !decide (nI i = p0) && (decide (qp i = p1) && !decide (qc i ≤ 0))
theorem q_lab (kc : Nat → Int32) (fo : Nat → Nat → Int32) (kp : Nat → Int32) (n : Nat) (qp qm qv qc hs : Nat → Int32) (p0 p1 : Int32) (sw : Nat → Int32) (hv : Int32) (hn : n ≤ 12) (hq : ∀ i, i < n → kv_iv (qp i) 0 3 = true) (hqc : ∀ i, i < n → 0 ≤ qc i ∧ qc i ≤ 500) (hK : ∀ i, i < 8 → 1 ≤ kc i ∧ kc i ≤ 64) :
    ∀ (k f i : Nat) (mt mv tk : Nat → Int32) (v : Nat → Nat) (R : Nat → Prop), i + k = n → k < f → kv_is tk v → kv_two v → (∀ S, S < 256 → (v S = 0 ↔ R S)) →
    ∃ mt' mv' tk' v', pf_X2_layAllBut_8 kc fo kp n qp qm qv qc p0 p1 hs f (nI i) mt mv sw hv tk = some (mt', mv', sw, hv, tk') ∧ kv_is tk' v' ∧ kv_two v' ∧ ∀ S, S < 256 → (v' S = 0 ↔ kv_reach (kv_use qp qc p1 p0) (kv_tk kc qm) (fun r j => kv_cv fo qp qm qv hs r (nI j)) (fun r => (qc r).toInt.toNat) i k R S) := by
  intro k
  induction k with
  | zero =>
    intro f i mt mv tk v R hi hf h1 h2 h3
    obtain ⟨f, rfl⟩ : ∃ z, f = z + 1 := ⟨f - 1, by omega⟩
    refine ⟨mt, mv, tk, v, ?_, h1, h2, h3⟩
    rw [pf_X2_layAllBut_8.eq_2]
    unfold pf_X2_layAllBut_8b
    rw [if_pos ((kv_leN hn (by omega)).mpr (by omega))]
  | succ k ih =>
    intro f i mt mv tk v R hi hf h1 h2 h3
    obtain ⟨f, rfl⟩ : ∃ z, f = z + 1 := ⟨f - 1, by omega⟩
    have hin : i < n := by omega
    have pre : ∀ k2, pf_X2_layAllBut_8b kc fo kp n qp qm qv qc p0 p1 hs k2 (nI i) mt mv sw hv tk = (if nI i = p0 then k2 (nI (i + 1)) mt mv sw hv tk else if qp i = p1 then if qc i ≤ 0 then k2 (nI (i + 1)) mt mv sw hv tk else kv_q2 (pf_X2_takeUp kc fo n qp qm qv i hs mt mv) (fun o0_61 o1_61 => kv_q1 (pf_X0_layOpen o0_61 o1_61 tk) (fun u_68 => kv_q1 (pf_X0_closeWithin (qc i) u_68) (fun u_80 => k2 (nI (i + 1)) o0_61 o1_61 sw hv u_80))) else k2 (nI (i + 1)) mt mv sw hv tk) := by
      intro k2
      unfold pf_X2_layAllBut_8b
      rw [if_neg (fun d => by have := (kv_leN hn (by omega)).mp d; omega), kv_lN hn hin]
      simp only [kv_T, nI_clamp (show i < 2 ^ 31 by omega), nI_1]
    have skip : kv_use qp qc p1 p0 i = false → pf_X2_layAllBut_8 kc fo kp n qp qm qv qc p0 p1 hs (f + 1) (nI i) mt mv sw hv tk = pf_X2_layAllBut_8 kc fo kp n qp qm qv qc p0 p1 hs f (nI (i + 1)) mt mv sw hv tk := by
      intro hu
      rw [pf_X2_layAllBut_8.eq_2, pre]
      unfold kv_use at hu
      by_cases c1 : nI i = p0
      · rw [if_pos c1]
      · rw [if_neg c1]
        by_cases c2 : qp i = p1
        · rw [if_pos c2]
          by_cases c3 : qc i ≤ 0
          · rw [if_pos c3]
          · simp [c1, c2, c3] at hu
        · rw [if_neg c2]
    cases hu : kv_use qp qc p1 p0 i with
    | false =>
      rw [skip hu]
      obtain ⟨a, b, d, e, g1, g2, g3, g4⟩ := ih f (i + 1) mt mv tk v R (by omega) (by omega) h1 h2 h3
      refine ⟨a, b, d, e, g1, g2, g3, fun S hS => ?_⟩
      rw [g4 S hS]
      unfold kv_reach
      rw [hu]
      cases k <;> rfl
    | true =>
      have hu2 : ¬ nI i = p0 ∧ qp i = p1 ∧ ¬ qc i ≤ 0 := by
        unfold kv_use at hu
        simp only [Bool.and_eq_true, Bool.not_eq_true', decide_eq_true_eq, decide_eq_false_iff_not] at hu
        exact hu
      obtain ⟨c1, c2, c3⟩ := hu2
      obtain ⟨mt', mv', t1, t2⟩ := q_take kc fo n qp qm qv hs i mt mv (hq i hin) hK
      obtain ⟨e1, e2⟩ := kv_cntN (hqc i hin).1 (hqc i hin).2
      obtain ⟨u, tk', v', s1, s2, s3, s4, s5⟩ := q_one (t := kv_tk kc qm i) (c := fun j => kv_cv fo qp qm qv hs i (nI j)) (cnt := (qc i).toInt.toNat) (R := R) t2 h1 h2 h3 e2
      rw [← e1] at s2
      obtain ⟨a, b, d, e, g1, g2, g3, g4⟩ := ih f (i + 1) mt' mv' tk' v' _ (by omega) (by omega) s3 s4 s5
      refine ⟨a, b, d, e, ?_, g2, g3, fun S hS => ?_⟩
      · rw [pf_X2_layAllBut_8.eq_2, pre, if_neg c1, if_pos c2, if_neg c3, t1]
        simp only [kv_q1, kv_q2, s1, s2]
        exact g1
      · rw [g4 S hS]
        unfold kv_reach
        rw [hu]
        cases k <;> rfl
end KVP9
