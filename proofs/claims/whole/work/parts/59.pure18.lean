section KVP18
def kv_ct (use : Nat → Bool) : Nat → Nat → Nat → Nat
  | _, 0, x => x
  | i, k + 1, x => kv_ct use (i + 1) k (if use i = true then x + 1 else x)
theorem kv_ni1 {i : Nat} (h : i < 100) : ¬ nI i = -1 := fun c => by
  have := congrArg Int32.toInt c
  rw [nI_toInt (by omega), kv_in1] at this
  omega
theorem kv_use_t {qp qc : Nat → Int32} {p0 : Int32} {i : Nat} (hi : i < 100) : kv_use qp qc p0 (-1) i = true ↔ qp i = p0 ∧ ¬ qc i ≤ 0 := by
  unfold kv_use
  rw [decide_eq_false (kv_ni1 hi)]
  simp
theorem q_few2 (n : Nat) (qp qc : Nat → Int32) (p0 : Int32) (hn : n ≤ 12) : ∀ (k f i x : Nat), i + k = n → k < f → x ≤ i → pf_X2_requireFewRights_4 n qp qc p0 f (nI x) (nI i) = if kv_ct (kv_use qp qc p0 (-1)) i k x ≤ 2 then some (.inl ()) else some (.inr 3) := by
  intro k
  induction k with
  | zero =>
    intro f i x hi hf hx
    obtain ⟨f, rfl⟩ : ∃ z, f = z + 1 := ⟨f - 1, by omega⟩
    have h2 : nI x ≤ 2 ↔ x ≤ 2 := nI_leI (b := 2) (by omega) (by omega)
    rw [pf_X2_requireFewRights_4.eq_2]
    unfold pf_X2_requireFewRights_4b kv_ct
    rw [if_pos ((kv_leN hn (by omega)).mpr (by omega))]
    simp only [h2]
  | succ k ih =>
    intro f i x hi hf hx
    obtain ⟨f, rfl⟩ : ∃ z, f = z + 1 := ⟨f - 1, by omega⟩
    have hin : i < n := by omega
    have hu := kv_use_t (qp := qp) (qc := qc) (p0 := p0) (i := i) (by omega)
    have hc : kv_ct (kv_use qp qc p0 (-1)) i (k + 1) x = kv_ct (kv_use qp qc p0 (-1)) (i + 1) k (if kv_use qp qc p0 (-1) i = true then x + 1 else x) := rfl
    rw [pf_X2_requireFewRights_4.eq_2, hc]
    unfold pf_X2_requireFewRights_4b
    rw [if_neg (fun d => by have := (kv_leN hn (by omega)).mp d; omega), kv_lN hn hin]
    simp only [kv_T, nI_clamp (show i < 2 ^ 31 by omega), nI_1]
    by_cases c2 : qp i = p0
    · by_cases c3 : qc i ≤ 0
      · rw [if_pos c2, if_pos c3, if_neg (fun q => (hu.mp q).2 c3)]
        exact ih f (i + 1) x (by omega) (by omega) (by omega)
      · rw [if_pos c2, if_neg c3, if_pos (hu.mpr ⟨c2, c3⟩)]
        exact ih f (i + 1) (x + 1) (by omega) (by omega) (by omega)
    · rw [if_neg c2, if_neg (fun q => c2 (hu.mp q).1)]
      exact ih f (i + 1) x (by omega) (by omega) (by omega)
theorem q_few3 (co ho ve pr rp rm rc ro : Nat → Int32) (p0 : Int32) (n : Nat) (qp : Nat → Int32) (cn tn tk sp : Nat → Int32) (th ba : Int32) (hn : n ≤ 12) (hrp : ∀ i, i < n → rp i = qp i) : ∀ (k f i x : Nat), i + k = n → k < f → x ≤ i → pf_X3_gapByAll_22 co ho ve pr (nI n) rp rm rc ro p0 f (nI x) (nI i) th cn tn tk sp ba = if kv_ct (kv_use qp rc p0 (-1)) i k x ≤ 2 then kv_q6 (pf_X3_least co ho ve pr (nI n) rp rm rc ro p0 cn tn tk sp ba) (fun r_78 o0_78 o1_78 o2_78 o3_78 o4_78 => some (r_78, th, o0_78, o1_78, o2_78, o3_78, o4_78)) else some (0, 2, cn, tn, tk, sp, ba) := by
  intro k
  induction k with
  | zero =>
    intro f i x hi hf hx
    obtain ⟨f, rfl⟩ : ∃ z, f = z + 1 := ⟨f - 1, by omega⟩
    have h2 : nI x ≤ 2 ↔ x ≤ 2 := nI_leI (b := 2) (by omega) (by omega)
    rw [pf_X3_gapByAll_22.eq_2]
    unfold pf_X3_gapByAll_22b kv_ct
    rw [if_pos ((kv_leN hn (by omega)).mpr (by omega))]
    by_cases c : x ≤ 2
    · rw [if_pos (h2.mpr c), if_pos c]
    · rw [if_neg (fun q => c (h2.mp q)), if_neg c]
      exact Eq.refl _
  | succ k ih =>
    intro f i x hi hf hx
    obtain ⟨f, rfl⟩ : ∃ z, f = z + 1 := ⟨f - 1, by omega⟩
    have hin : i < n := by omega
    have hu := kv_use_t (qp := qp) (qc := rc) (p0 := p0) (i := i) (by omega)
    have hc : kv_ct (kv_use qp rc p0 (-1)) i (k + 1) x = kv_ct (kv_use qp rc p0 (-1)) (i + 1) k (if kv_use qp rc p0 (-1) i = true then x + 1 else x) := rfl
    rw [pf_X3_gapByAll_22.eq_2, hc]
    have step : ∀ k2, pf_X3_gapByAll_22b co ho ve pr (nI n) rp rm rc ro p0 k2 (nI x) (nI i) th cn tn tk sp ba = if qp i = p0 then if rc i ≤ 0 then k2 (nI x) (nI (i + 1)) th cn tn tk sp ba else k2 (nI (x + 1)) (nI (i + 1)) th cn tn tk sp ba else k2 (nI x) (nI (i + 1)) th cn tn tk sp ba := by
      intro k2
      unfold pf_X3_gapByAll_22b pf_X3_gapByAll_55
      rw [if_neg (fun d => by have := (kv_leN hn (by omega)).mp d; omega), kv_gN (show i < 12 by omega) (by omega)]
      simp only [kv_T, nI_clamp (show i < 2 ^ 31 by omega), nI_1, kv_gN (show i < 12 by omega) (show i < 2 ^ 31 by omega), hrp i hin, Int32.add_zero]
    rw [step]
    by_cases c2 : qp i = p0
    · by_cases c3 : rc i ≤ 0
      · rw [if_pos c2, if_pos c3, if_neg (fun q => (hu.mp q).2 c3)]
        exact ih f (i + 1) x (by omega) (by omega) (by omega)
      · rw [if_pos c2, if_neg c3, if_pos (hu.mpr ⟨c2, c3⟩)]
        exact ih f (i + 1) (x + 1) (by omega) (by omega) (by omega)
    · rw [if_neg c2, if_neg (fun q => c2 (hu.mp q).1)]
      exact ih f (i + 1) x (by omega) (by omega) (by omega)
theorem q_gba (kc kh : Nat → Int32) (fo : Nat → Nat → Int32) (kp : Nat → Int32) (n : Nat) (qp qm qv qc : Nat → Int32) (p0 : Int32) (sw : Nat → Int32) (hv : Int32) (hn : n ≤ 12) (hq : ∀ i, i < n → kv_iv (qp i) 0 3 = true) (hqc : ∀ i, i < n → 0 ≤ qc i ∧ qc i ≤ 500) (hK : ∀ i, i < 8 → 1 ≤ kc i ∧ kc i ≤ 64) :
    ∀ (k f i : Nat) (mt mv tk tn sc : Nat → Int32) (v : Nat → Nat) (R : Nat → Prop), i + k = n → k < f → kv_is tk v → kv_two v → (∀ S, S < 256 → (v S = 0 ↔ R S)) →
    ∃ mt' mv' tk' tn' sc' v', pf_X2_gapByAll_16 kc kh fo kp n qp qm qv qc p0 f (nI i) mt mv sw hv tk tn sc = kv_q1 (pf_X0_leastUncoveredWithin sw hv tk' 0) (fun r_89 => kv_q1 (pf_X0_weightOfSet sw r_89) (fun r_92 => some (.inl (r_92, mt', mv', sw, hv, tk', tn', sc')))) ∧ kv_is tk' v' ∧ kv_two v' ∧ ∀ S, S < 256 → (v' S = 0 ↔ kv_reach (kv_use qp qc p0 (-1)) (kv_tk kc qm) (fun r j => kv_cv fo qp qm qv kh r (nI j)) (fun r => (qc r).toInt.toNat) i k R S) := by
  intro k
  induction k with
  | zero =>
    intro f i mt mv tk tn sc v R hi hf h1 h2 h3
    obtain ⟨f, rfl⟩ : ∃ z, f = z + 1 := ⟨f - 1, by omega⟩
    refine ⟨mt, mv, tk, tn, sc, v, ?_, h1, h2, h3⟩
    rw [pf_X2_gapByAll_16.eq_2]
    unfold pf_X2_gapByAll_16b
    rw [if_pos ((kv_leN hn (by omega)).mpr (by omega))]
  | succ k ih =>
    intro f i mt mv tk tn sc v R hi hf h1 h2 h3
    obtain ⟨f, rfl⟩ : ∃ z, f = z + 1 := ⟨f - 1, by omega⟩
    have hin : i < n := by omega
    have hu := kv_use_t (qp := qp) (qc := qc) (p0 := p0) (i := i) (by omega)
    have pre : ∀ k2, pf_X2_gapByAll_16b kc kh fo kp n qp qm qv qc p0 k2 (nI i) mt mv sw hv tk tn sc = (if qp i = p0 then if qc i ≤ 0 then k2 (nI (i + 1)) mt mv sw hv tk tn sc else kv_q2 (pf_X2_takeUp kc fo n qp qm qv i kh mt mv) (fun o0_60 o1_60 => kv_q3 (pf_X0_layOnAllSets o0_60 o1_60 (qc i) tk tn sc) (fun o0_71 o1_71 o2_71 => k2 (nI (i + 1)) o0_60 o1_60 sw hv o0_71 o1_71 o2_71)) else k2 (nI (i + 1)) mt mv sw hv tk tn sc) := by
      intro k2
      unfold pf_X2_gapByAll_16b
      rw [if_neg (fun d => by have := (kv_leN hn (by omega)).mp d; omega), kv_lN hn hin]
      simp only [kv_T, nI_clamp (show i < 2 ^ 31 by omega), nI_1]
    by_cases c2 : qp i = p0
    · by_cases c3 : qc i ≤ 0
      · obtain ⟨a, b, d, e, e', e'', g1, g2, g3, g4⟩ := ih f (i + 1) mt mv tk tn sc v R (by omega) (by omega) h1 h2 h3
        refine ⟨a, b, d, e, e', e'', ?_, g2, g3, ?_⟩
        · rw [pf_X2_gapByAll_16.eq_2, pre, if_pos c2, if_pos c3]; exact g1
        · rw [kv_reach_S, Bool.eq_false_iff.mpr (fun q => (hu.mp q).2 c3)]; exact g4
      · obtain ⟨mt', mv', t1, t2⟩ := q_take kc fo n qp qm qv kh i mt mv (hq i hin) hK
        obtain ⟨e1, e2⟩ := kv_cntN (hqc i hin).1 (hqc i hin).2
        obtain ⟨tk', tn', sc', v', s1, s2, s3, s4⟩ := q_los (t := kv_tk kc qm i) (c := fun j => kv_cv fo qp qm qv kh i (nI j)) (cnt := (qc i).toInt.toNat) (R := R) tn sc t2 h1 h3 e2
        rw [← e1] at s1
        obtain ⟨a, b, d, e, e', e'', g1, g2, g3, g4⟩ := ih f (i + 1) mt' mv' tk' tn' sc' v' _ (by omega) (by omega) s2 s3 s4
        refine ⟨a, b, d, e, e', e'', ?_, g2, g3, ?_⟩
        · rw [pf_X2_gapByAll_16.eq_2, pre, if_pos c2, if_neg c3, t1]
          simp only [kv_q2, kv_q3, s1]
          exact g1
        · rw [kv_reach_S, hu.mpr ⟨c2, c3⟩]; exact g4
    · obtain ⟨a, b, d, e, e', e'', g1, g2, g3, g4⟩ := ih f (i + 1) mt mv tk tn sc v R (by omega) (by omega) h1 h2 h3
      refine ⟨a, b, d, e, e', e'', ?_, g2, g3, ?_⟩
      · rw [pf_X2_gapByAll_16.eq_2, pre, if_neg c2]; exact g1
      · rw [kv_reach_S, Bool.eq_false_iff.mpr (fun q => c2 (hu.mp q).1)]; exact g4
end KVP18
