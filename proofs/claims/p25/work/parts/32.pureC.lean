section KVP8
def kv_d (h i : Nat) : Nat := (nI h &&& (nI i ^^^ (-1))).toBitVec.toNat
theorem kv_dI (h i : Nat) : nI h &&& (nI i ^^^ (-1)) = nI (kv_d h i) := by
  apply Int32.toBitVec_inj.mp
  apply BitVec.eq_of_toNat_eq
  have hl : kv_d h i < 2 ^ 32 := BitVec.isLt _
  rw [pk_tn hl]
  rfl
theorem kv_d_lt {h i : Nat} (hh : h < 256) : kv_d h i < 256 := by
  unfold kv_d
  rw [Int32.toBitVec_and, BitVec.toNat_and, pk_tn (by omega)]
  exact Nat.lt_of_le_of_lt Nat.and_le_left hh
theorem kv_d_0 {h : Nat} (hh : h < 256) : kv_d h 0 = h := by
  unfold kv_d
  rw [show nI 0 ^^^ (-1) = -1 from by decide, Int32.toBitVec_and, BitVec.toNat_and, pk_tn (by omega), show (-1 : Int32).toBitVec.toNat = 2 ^ 32 - 1 from by decide, Nat.and_two_pow_sub_one_eq_mod, Nat.mod_eq_of_lt (by omega)]
def kv_less (W : Nat → Nat) (a b : Nat) : Bool := decide (W a < W b) || (decide (W a = W b) && decide (a < b))
def kv_pick (W d : Nat → Nat) (ok : Nat → Bool) : Nat → Nat → Nat → Nat
  | _, 0, L => L
  | i, k + 1, L => kv_pick W d ok (i + 1) k (if (ok i && kv_less W (d i) L) = true then d i else L)
theorem kv_pick_lt {W d : Nat → Nat} {ok : Nat → Bool} (hd : ∀ i, d i < 256) : ∀ (k i L : Nat), L < 256 → kv_pick W d ok i k L < 256 := by
  intro k
  induction k with
  | zero => intro i L h; exact h
  | succ k ih =>
    intro i L h
    refine ih (i + 1) _ ?_
    split
    · exact hd i
    · exact h
theorem kv_pick_c {W d : Nat → Nat} {ok ok' : Nat → Bool} : ∀ (k i L : Nat), (∀ j, i ≤ j → j < i + k → ok j = ok' j) → kv_pick W d ok i k L = kv_pick W d ok' i k L := by
  intro k
  induction k with
  | zero => intro i L _; rfl
  | succ k ih =>
    intro i L h
    show kv_pick W d ok (i + 1) k _ = kv_pick W d ok' (i + 1) k _
    rw [h i (Nat.le_refl i) (by omega), ih (i + 1) _ (fun j a b => h j (by omega) (by omega))]
theorem q_ws {sw : Nat → Int32} {W : Nat → Nat} (hW : ∀ U, U < 256 → sw U = nI (W U)) {a : Nat} (ha : a < 256) : pf_X0_weightOfSet sw (nI a) = some (nI (W a)) := by
  have e : nI a &&& 255 = nI a := by rw [pk_andN (by omega) 8 (by decide), Nat.mod_eq_of_lt ha]
  unfold pf_X0_weightOfSet
  rw [e, kv_gN ha (by omega)]
  simp only [kv_T, nI_clamp (show a < 2 ^ 31 by omega), hW a ha]
theorem q_less {sw : Nat → Int32} {W : Nat → Nat} (hW : ∀ U, U < 256 → sw U = nI (W U)) (hb : ∀ U, U < 256 → W U ≤ 512000) {a b : Nat} (ha : a < 256) (hbb : b < 256) : pf_X0_isLess sw (nI a) (nI b) = some (if kv_less W a b = true then 1 else 0) := by
  have h1 := hb a ha
  have h2 := hb b hbb
  have e := pk_sub_toInt (a := W a) (b := W b) (by omega) (by omega)
  unfold pf_X0_isLess kv_less
  rw [q_ws hW ha, q_ws hW hbb]
  simp only [kv_q1, kv_T]
  by_cases c : W a < W b
  · rw [if_pos (by rw [Int32.lt_iff_toInt_lt, e, kv_i0]; omega)]
    simp [c]
  · rw [if_neg (by rw [Int32.lt_iff_toInt_lt, e, kv_i0]; omega)]
    by_cases d : W a = W b
    · rw [if_pos (by apply Int32.toInt_inj.mp; rw [e, kv_i0]; omega)]
      by_cases g : a < b
      · rw [if_neg (fun q => by have := (nI_leI (by omega) (by omega)).mp q; omega)]
        simp [d, g]
      · rw [if_pos ((nI_leI (by omega) (by omega)).mpr (by omega))]
        simp [d, g]
    · rw [if_neg (fun q => by have q2 := congrArg Int32.toInt q; rw [e, kv_i0] at q2; omega)]
      simp [c, d]
theorem q_luw (sw tk : Nat → Int32) (h cnt : Nat) (W v : Nat → Nat) (hW : ∀ U, U < 256 → sw U = nI (W U)) (hb : ∀ U, U < 256 → W U ≤ 512000) (hh : h < 256) (hc : cnt ≤ 500) (hv : kv_is tk v) : ∀ (k f i L : Nat), i + k = 256 → k < f → L < 256 → pf_X0_leastUncoveredWithin_7 sw (nI h) tk (nI cnt) f (nI L) (nI i) = some (nI (kv_pick W (kv_d h) (fun S => decide (v S ≤ cnt)) i k L)) := by
  intro k
  induction k with
  | zero =>
    intro f i L hi hf hL
    obtain ⟨f, rfl⟩ : ∃ z, f = z + 1 := ⟨f - 1, by omega⟩
    rw [pf_X0_leastUncoveredWithin_7.eq_2]
    unfold pf_X0_leastUncoveredWithin_7b
    rw [if_pos ((kv_ge256 (by omega)).mpr (by omega))]
    rfl
  | succ k ih =>
    intro f i L hi hf hL
    obtain ⟨f, rfl⟩ : ∃ z, f = z + 1 := ⟨f - 1, by omega⟩
    have hi2 : i < 256 := by omega
    obtain ⟨v1, v2⟩ := hv i hi2
    have hd : kv_d h i < 256 := kv_d_lt hh
    have step : ∀ k2 : Int32 → Int32 → Option Int32, pf_X0_leastUncoveredWithin_7b sw (nI h) tk (nI cnt) k2 (nI L) (nI i) = k2 (nI (if (decide (v i ≤ cnt) && kv_less W (kv_d h i) L) = true then kv_d h i else L)) (nI (i + 1)) := by
      intro k2
      unfold pf_X0_leastUncoveredWithin_7b
      rw [if_neg (fun d => by have := (kv_ge256 (by omega)).mp d; omega), kv_dI]
      simp only [kv_T, kv_gN hi2 (show i < 2 ^ 31 by omega), nI_clamp (show i < 2 ^ 31 by omega), v1, nI_1, q_less hW hb hd hL, kv_q1]
      by_cases c : v i ≤ cnt
      · rw [if_neg (fun q => by have := (nI_ltI (by omega) (by omega)).mp q; omega)]
        cases g : kv_less W (kv_d h i) L <;> simp [c]
      · rw [if_pos ((nI_ltI (by omega) (by omega)).mpr (by omega))]
        simp [c]
    rw [pf_X0_leastUncoveredWithin_7.eq_2, step]
    refine ih f (i + 1) _ (by omega) (by omega) ?_
    split
    · exact hd
    · exact hL
theorem q_lu {sw tk : Nat → Int32} {h cnt : Nat} {W v : Nat → Nat} (hW : ∀ U, U < 256 → sw U = nI (W U)) (hb : ∀ U, U < 256 → W U ≤ 512000) (hh : h < 256) (hc : cnt ≤ 500) (hv : kv_is tk v) : pf_X0_leastUncoveredWithin sw (nI h) tk (nI cnt) = some (nI (kv_pick W (kv_d h) (fun S => decide (v S ≤ cnt)) 0 256 h)) := q_luw sw tk h cnt W v hW hb hh hc hv 256 kv_F 0 h (by omega) (kv_Fgt (by omega)) hh
theorem q_ltf (sw tk : Nat → Int32) (h g : Nat) (W v : Nat → Nat) (hW : ∀ U, U < 256 → sw U = nI (W U)) (hb : ∀ U, U < 256 → W U ≤ 512000) (hg : g ≤ 512000) (hh : h < 256) (hv : kv_is tk v) : ∀ (k f i M : Nat), i + k = 256 → k < f → M ≤ 1000000 → (∀ x, x < 1000000 → (M ≤ x ↔ ∃ S, S < i ∧ W (kv_d h S) = g ∧ v S ≤ x)) → ∃ M', pf_X0_leastTakenFor_5 sw (nI h) tk (nI g) f (nI M) (nI i) = some (nI M') ∧ M' ≤ 1000000 ∧ ∀ x, x < 1000000 → (M' ≤ x ↔ ∃ S, S < 256 ∧ W (kv_d h S) = g ∧ v S ≤ x) := by
  intro k
  induction k with
  | zero =>
    intro f i M hi hf hM hI
    obtain ⟨f, rfl⟩ : ∃ z, f = z + 1 := ⟨f - 1, by omega⟩
    refine ⟨M, ?_, hM, ?_⟩
    · rw [pf_X0_leastTakenFor_5.eq_2]
      unfold pf_X0_leastTakenFor_5b
      rw [if_pos ((kv_ge256 (by omega)).mpr (by omega))]
    · rw [show i = 256 by omega] at hI
      exact hI
  | succ k ih =>
    intro f i M hi hf hM hI
    obtain ⟨f, rfl⟩ : ∃ z, f = z + 1 := ⟨f - 1, by omega⟩
    have hi2 : i < 256 := by omega
    obtain ⟨v1, v2⟩ := hv i hi2
    have hd : kv_d h i < 256 := kv_d_lt hh
    have hWd := hb _ hd
    have step : ∀ k2 : Int32 → Int32 → Option Int32, pf_X0_leastTakenFor_5b sw (nI h) tk (nI g) k2 (nI M) (nI i) = k2 (nI (if W (kv_d h i) = g then min (v i) M else M)) (nI (i + 1)) := by
      intro k2
      unfold pf_X0_leastTakenFor_5b
      rw [if_neg (fun d => by have := (kv_ge256 (by omega)).mp d; omega), kv_dI, q_ws hW hd]
      simp only [kv_q1, kv_T, nI_clamp (show i < 2 ^ 31 by omega), v1, nI_1, kv_gN hi2 (show i < 2 ^ 31 by omega), kv_min (show v i < 2 ^ 31 by omega) (show M < 2 ^ 31 by omega)]
      by_cases c : W (kv_d h i) = g
      · rw [if_pos (by rw [c]), if_pos c]
      · rw [if_neg (fun q => c ((nI_eq (by omega) (by omega)).mp q)), if_neg c]
    rw [pf_X0_leastTakenFor_5.eq_2, step]
    refine ih f (i + 1) _ (by omega) (by omega) ?_ (fun x hx => ?_)
    · split <;> omega
    · by_cases c : W (kv_d h i) = g
      · rw [if_pos c]
        have hm : min (v i) M ≤ x ↔ v i ≤ x ∨ M ≤ x := by omega
        rw [hm, hI x hx]
        constructor
        · rintro (q | ⟨S, q1, q2, q3⟩)
          · exact ⟨i, by omega, c, q⟩
          · exact ⟨S, by omega, q2, q3⟩
        · rintro ⟨S, q1, q2, q3⟩
          by_cases e : S = i
          · exact Or.inl (by rw [← e]; exact q3)
          · exact Or.inr ⟨S, by omega, q2, q3⟩
      · rw [if_neg c, hI x hx]
        constructor
        · rintro ⟨S, q1, q2, q3⟩
          exact ⟨S, by omega, q2, q3⟩
        · rintro ⟨S, q1, q2, q3⟩
          exact ⟨S, by have : S ≠ i := fun e => c (by rw [← e]; exact q2); omega, q2, q3⟩
theorem q_lt {sw tk : Nat → Int32} {h g : Nat} {W v : Nat → Nat} (hW : ∀ U, U < 256 → sw U = nI (W U)) (hb : ∀ U, U < 256 → W U ≤ 512000) (hg : g ≤ 512000) (hh : h < 256) (hv : kv_is tk v) : ∃ M', pf_X0_leastTakenFor sw (nI h) tk (nI g) = some (nI M') ∧ M' ≤ 1000000 ∧ ∀ x, x < 1000000 → (M' ≤ x ↔ ∃ S, S < 256 ∧ W (kv_d h S) = g ∧ v S ≤ x) :=
  q_ltf sw tk h g W v hW hb hg hh hv 256 kv_F 0 1000000 (by omega) (kv_Fgt (by omega)) (Nat.le_refl _) (fun x hx => ⟨fun q => by omega, fun ⟨S, q, _⟩ => absurd q (Nat.not_lt_zero S)⟩)
end KVP8


section KVP9
def kv_step (t c : Nat → Nat) (cnt : Nat) (R : Nat → Prop) (S : Nat) : Prop := ∃ a U, a < 256 ∧ U < 256 ∧ R a ∧ kv_S t U 8 ≤ cnt ∧ a ||| kv_O c U 8 = S
def kv_two (v : Nat → Nat) : Prop := ∀ S, S < 256 → v S = 0 ∨ v S = 1000000
theorem q_one {mt mv tk : Nat → Int32} {t c v : Nat → Nat} {cnt : Nat} {R : Nat → Prop} (hm : ∀ j, j < 8 → mt j = nI (t j) ∧ t j ≤ 64 ∧ mv j = nI (c j) ∧ c j < 256) (hv : kv_is tk v) (h2 : kv_two v) (hR : ∀ S, S < 256 → (v S = 0 ↔ R S)) (hc : cnt ≤ 500) : ∃ u tk' v', pf_X0_layOpen mt mv tk = some u ∧ pf_X0_closeWithin (nI cnt) u = some tk' ∧ kv_is tk' v' ∧ kv_two v' ∧ ∀ S, S < 256 → (v' S = 0 ↔ kv_step t c cnt R S) := by
  obtain ⟨u, w, g1, g2, g3⟩ := q_lo mt mv t c hm tk v hv
  obtain ⟨tk', g4, g5⟩ := q_close hc g2
  refine ⟨u, tk', _, g1, g4, g5, fun S hS => ?_, fun S hS => ?_⟩
  · by_cases e : w S ≤ cnt
    · exact Or.inl (if_pos e)
    · exact Or.inr (if_neg e)
  · have e1 : (if w S ≤ cnt then 0 else 1000000) = 0 ↔ w S ≤ cnt := by split <;> omega
    rw [e1, g3 S hS cnt]
    constructor
    · rintro ⟨a, U, q1, q2, q3, q4⟩
      rcases h2 a q1 with q | q
      · exact ⟨a, U, q1, q2, (hR a q1).mp q, by omega, q4⟩
      · omega
    · rintro ⟨a, U, q1, q2, q3, q4, q5⟩
      have := (hR a q1).mpr q3
      exact ⟨a, U, q1, q2, by omega, q5⟩
noncomputable def kv_reach (use : Nat → Bool) (t c : Nat → Nat → Nat) (cnt : Nat → Nat) : Nat → Nat → (Nat → Prop) → (Nat → Prop)
  | _, 0, R => R
  | i, k + 1, R => kv_reach use t c cnt (i + 1) k (match use i with | true => kv_step (t i) (c i) (cnt i) R | false => R)
theorem kv_cntN {x : Int32} (h0 : 0 ≤ x) (h : x ≤ 500) : x = nI x.toInt.toNat ∧ x.toInt.toNat ≤ 500 := by
  obtain ⟨a, a1, a2⟩ := nI_of2 (n := 500) kv_i500 (Int32.not_lt.mpr h0) h
  rw [a2, nI_toInt (by omega)]
  exact ⟨rfl, a1⟩
def kv_use (qp qc : Nat → Int32) (p1 p0 : Int32) (i : Nat) : Bool := !decide (nI i = p0) && (decide (qp i = p1) && !decide (qc i ≤ 0))
theorem q_lab (kc : Nat → Int32) (fo : Nat → Nat → Int32) (kp : Nat → Int32) (n : Nat) (qp qm qv qc hs : Nat → Int32) (p0 p1 : Int32) (sw : Nat → Int32) (hv : Int32) (hn : n ≤ 12) (hq : ∀ i, i < n → kv_iv (qp i) 0 3 = true) (hqc : ∀ i, i < n → 0 ≤ qc i ∧ qc i ≤ 500) (hK : ∀ i, i < 8 → 1 ≤ kc i ∧ kc i ≤ 64) :
    ∀ (k f i : Nat) (mt mv tk : Nat → Int32) (v : Nat → Nat) (R : Nat → Prop), i + k = n → k < f → kv_is tk v → kv_two v → (∀ S, S < 256 → (v S = 0 ↔ R S)) →
    ∃ mt' mv' tk' v', pf_X2_layAllBut_8 kc fo kp n qp qm qv qc p0 p1 hs f (nI i) mt mv sw hv tk = some (mt', mv', sw, hv, tk') ∧ kv_is tk' v' ∧ kv_two v' ∧ ∀ S, S < 256 → (v' S = 0 ↔ kv_reach (kv_use qp qc p1 p0) (kv_tk kc qm) (fun r j => kv_cv fo qp qm qv hs r (nI j)) (fun r => (qc r).toInt.toNat) i k R S) := by
  intro k
  induction k with
  | zero =>
    intro f i mt mv tk v R hi hf h1 h2 h3
    obtain ⟨f, rfl⟩ : ∃ z, f = z + 1 := ⟨f - 1, by omega⟩
    refine ⟨mt, mv, tk, v, ?_, h1, h2, h3⟩
    rw [pf_X2_layAllBut_8.eq_2]
    unfold pf_X2_layAllBut_8b
    rw [if_pos ((kv_leN hn (by omega)).mpr (by omega))]
  | succ k ih =>
    intro f i mt mv tk v R hi hf h1 h2 h3
    obtain ⟨f, rfl⟩ : ∃ z, f = z + 1 := ⟨f - 1, by omega⟩
    have hin : i < n := by omega
    have pre : ∀ k2, pf_X2_layAllBut_8b kc fo kp n qp qm qv qc p0 p1 hs k2 (nI i) mt mv sw hv tk = (if nI i = p0 then k2 (nI (i + 1)) mt mv sw hv tk else if qp i = p1 then if qc i ≤ 0 then k2 (nI (i + 1)) mt mv sw hv tk else kv_q2 (pf_X2_takeUp kc fo n qp qm qv i hs mt mv) (fun o0_61 o1_61 => kv_q1 (pf_X0_layOpen o0_61 o1_61 tk) (fun u_68 => kv_q1 (pf_X0_closeWithin (qc i) u_68) (fun u_80 => k2 (nI (i + 1)) o0_61 o1_61 sw hv u_80))) else k2 (nI (i + 1)) mt mv sw hv tk) := by
      intro k2
      unfold pf_X2_layAllBut_8b
      rw [if_neg (fun d => by have := (kv_leN hn (by omega)).mp d; omega), kv_lN hn hin]
      simp only [kv_T, nI_clamp (show i < 2 ^ 31 by omega), nI_1]
    have skip : kv_use qp qc p1 p0 i = false → pf_X2_layAllBut_8 kc fo kp n qp qm qv qc p0 p1 hs (f + 1) (nI i) mt mv sw hv tk = pf_X2_layAllBut_8 kc fo kp n qp qm qv qc p0 p1 hs f (nI (i + 1)) mt mv sw hv tk := by
      intro hu
      rw [pf_X2_layAllBut_8.eq_2, pre]
      unfold kv_use at hu
      by_cases c1 : nI i = p0
      · rw [if_pos c1]
      · rw [if_neg c1]
        by_cases c2 : qp i = p1
        · rw [if_pos c2]
          by_cases c3 : qc i ≤ 0
          · rw [if_pos c3]
          · simp [c1, c2, c3] at hu
        · rw [if_neg c2]
    cases hu : kv_use qp qc p1 p0 i with
    | false =>
      rw [skip hu]
      obtain ⟨a, b, d, e, g1, g2, g3, g4⟩ := ih f (i + 1) mt mv tk v R (by omega) (by omega) h1 h2 h3
      refine ⟨a, b, d, e, g1, g2, g3, fun S hS => ?_⟩
      rw [g4 S hS]
      unfold kv_reach
      rw [hu]
      cases k <;> rfl
    | true =>
      have hu2 : ¬ nI i = p0 ∧ qp i = p1 ∧ ¬ qc i ≤ 0 := by
        unfold kv_use at hu
        simp only [Bool.and_eq_true, Bool.not_eq_true', decide_eq_true_eq, decide_eq_false_iff_not] at hu
        exact hu
      obtain ⟨c1, c2, c3⟩ := hu2
      obtain ⟨mt', mv', t1, t2⟩ := q_take kc fo n qp qm qv hs i mt mv (hq i hin) hK
      obtain ⟨e1, e2⟩ := kv_cntN (hqc i hin).1 (hqc i hin).2
      obtain ⟨u, tk', v', s1, s2, s3, s4, s5⟩ := q_one (t := kv_tk kc qm i) (c := fun j => kv_cv fo qp qm qv hs i (nI j)) (cnt := (qc i).toInt.toNat) (R := R) t2 h1 h2 h3 e2
      rw [← e1] at s2
      obtain ⟨a, b, d, e, g1, g2, g3, g4⟩ := ih f (i + 1) mt' mv' tk' v' _ (by omega) (by omega) s3 s4 s5
      refine ⟨a, b, d, e, ?_, g2, g3, fun S hS => ?_⟩
      · rw [pf_X2_layAllBut_8.eq_2, pre, if_neg c1, if_pos c2, if_neg c3, t1]
        simp only [kv_q1, kv_q2, s1, s2]
        exact g1
      · rw [g4 S hS]
        unfold kv_reach
        rw [hu]
        cases k <;> rfl
end KVP9


section KVP10
theorem kv_sm {m : Nat} (hm : m < 8) : ((nI m &&& 31).toBitVec.smod 32).toNat = m :=
  kv_8 (P := fun m => ((nI m &&& 31).toBitVec.smod 32).toNat = m) (by decide) (by decide) (by decide) (by decide) (by decide) (by decide) (by decide) (by decide) hm
theorem kv_shr {U m : Nat} (hU : U < 256) (hm : m < 8) : (nI U >>> (nI m &&& 31)) &&& 1 = if U.testBit m = true then 1 else 0 := by
  have hle : U / 2 ^ m ≤ U := Nat.div_le_self _ _
  rw [pk_shrN (by omega) _ m (kv_sm hm), pk_andN (by omega) 1 (by decide), Nat.testBit_eq_decide_div_mod_eq]
  have h2 : U / 2 ^ m % 2 < 2 := Nat.mod_lt _ (by decide)
  by_cases c : U / 2 ^ m % 2 = 1
  · rw [if_pos (by rw [decide_eq_true c])]
    show nI (U / 2 ^ m % 2 ^ 1) = 1
    rw [Nat.pow_one, c]
    rfl
  · rw [if_neg (by rw [decide_eq_false c]; decide)]
    show nI (U / 2 ^ m % 2 ^ 1) = 0
    rw [Nat.pow_one, show U / 2 ^ m % 2 = 0 by omega]
    rfl
theorem kv_bits0 : ∀ U, U < 256 → (∀ j, j < 8 → U.testBit j = false) → U = 0 := by decide +kernel
theorem kv_bitsub : ∀ U, U < 256 → ∀ l, l < 8 → U.testBit l = true → 2 ^ l ≤ U ∧ ∀ j, j < 8 → (U - 2 ^ l).testBit j = (U.testBit j && !decide (j = l)) := by decide +kernel
theorem kv_S_sub {t : Nat → Nat} {U l : Nat} (hU : U < 256) (hl : l < 8) (h : U.testBit l = true) : kv_S t U 8 = kv_S t (U - 2 ^ l) 8 + t l := by
  have hb := (kv_bitsub U hU l hl h).2
  have key : ∀ m, m ≤ 8 → kv_S t U m = kv_S t (U - 2 ^ l) m + (if l < m then t l else 0) := by
    intro m
    induction m with
    | zero => intro _; rfl
    | succ m ih =>
      intro hm
      have h1 := ih (by omega)
      show kv_S t U m + (if U.testBit m = true then t m else 0) = kv_S t (U - 2 ^ l) m + (if (U - 2 ^ l).testBit m = true then t m else 0) + _
      rw [h1, hb m (by omega)]
      by_cases e : m = l
      · rw [e, h]
        simp
      · by_cases e2 : l < m
        · cases U.testBit m <;> simp [e, e2, show l < m + 1 by omega] <;> omega
        · cases U.testBit m <;> simp [e, e2, show ¬ l < m + 1 by omega]
  rw [key 8 (Nat.le_refl 8), if_pos hl]
theorem kv_O_sub {c : Nat → Nat} {U l : Nat} (hU : U < 256) (hl : l < 8) (h : U.testBit l = true) : kv_O c U 8 = kv_O c (U - 2 ^ l) 8 ||| c l := by
  have hb := (kv_bitsub U hU l hl h).2
  have key : ∀ m, m ≤ 8 → kv_O c U m = kv_O c (U - 2 ^ l) m ||| (if l < m then c l else 0) := by
    intro m
    induction m with
    | zero => intro _; simp [kv_O]
    | succ m ih =>
      intro hm
      have h1 := ih (by omega)
      show kv_O c U m ||| (if U.testBit m = true then c m else 0) = (kv_O c (U - 2 ^ l) m ||| (if (U - 2 ^ l).testBit m = true then c m else 0)) ||| _
      rw [h1, hb m (by omega)]
      by_cases e : m = l
      · rw [e, h]
        simp
      · by_cases e2 : l < m
        · cases U.testBit m
          · simp [e, e2, show l < m + 1 by omega]
          · simp [e, e2, show l < m + 1 by omega]
            rw [Nat.or_assoc, Nat.or_assoc, Nat.or_comm (c l)]
        · cases U.testBit m <;> simp [e, e2, show ¬ l < m + 1 by omega]
  rw [key 8 (Nat.le_refl 8), if_pos hl]
/-- what the reference's rows must hold of the keeper's right r -/
def kv_same (kc : Nat → Int32) (fo : Nat → Nat → Int32) (qp qm qv hs : Nat → Int32) (r : Nat) (co ho ve rp rm ro : Nat → Int32) : Prop := r < 12 ∧ kv_iv (qp r) 0 3 = true ∧ rp r = qp r ∧ rm r = qm r ∧ ro r = qv r ∧ (∀ i, i < 8 → ho i = hs i ∧ co i = kc i ∧ 1 ≤ kc i ∧ kc i ≤ 64) ∧ ∀ i j, i < 8 → j < 4 → ve (4 * i + j) = fo i j
end KVP10


section KVP11
theorem kv_S0 (t : Nat → Nat) : kv_S t 0 8 = 0 := by simp [kv_S]
theorem kv_O0 (t : Nat → Nat) : kv_O t 0 8 = 0 := by simp [kv_O]
theorem kv_ge65536 {i : Nat} (h : i ≤ 65536) : (65536 : Int32) ≤ nI i ↔ 65536 ≤ i := nI_leI (a := 65536) (by decide) (by omega)
section LEAST
variable (co ho ve pr : Nat → Int32) (rg : Int32) (rp rm rc ro : Nat → Int32) (p0 : Int32)
theorem kv_z256 {α : Type} (x : Option α) : kv_Z 256 x = x := if_neg (by decide)
end LEAST
end KVP11


section KVP12
theorem kv_reach_S (use : Nat → Bool) (t c : Nat → Nat → Nat) (cnt : Nat → Nat) (i k : Nat) (R : Nat → Prop) : kv_reach use t c cnt i (k + 1) R = kv_reach use t c cnt (i + 1) k (match use i with | true => kv_step (t i) (c i) (cnt i) R | false => R) := by
  unfold kv_reach
  cases k <;> rfl
theorem kv_step_k {t c : Nat → Nat} {cnt : Nat} {R : Nat → Prop} {cn : Nat → Int32} (hcn : ∀ S, S < 256 → (¬ cn S = 0 ↔ R S)) (S : Nat) : (∃ q, q < 65536 ∧ ¬ cn (q / 256) = 0 ∧ kv_S t (q % 256) 8 ≤ cnt ∧ q / 256 ||| kv_O c (q % 256) 8 = S) ↔ kv_step t c cnt R S := by
  constructor
  · rintro ⟨q, q1, q2, q3, q4⟩
    have h1 : q / 256 < 256 := by omega
    exact ⟨q / 256, q % 256, h1, Nat.mod_lt _ (by omega), (hcn _ h1).mp q2, q3, q4⟩
  · rintro ⟨a, U, a1, a2, a3, a4, a5⟩
    refine ⟨a * 256 + U, by omega, ?_, ?_, ?_⟩
    · rw [show (a * 256 + U) / 256 = a by omega]; exact (hcn a a1).mpr a3
    · rw [show (a * 256 + U) % 256 = U by omega]; exact a4
    · rw [show (a * 256 + U) / 256 = a by omega, show (a * 256 + U) % 256 = U by omega]; exact a5
theorem kv_S_le64 {t : Nat → Nat} {U : Nat} (h : ∀ j, j < 8 → t j ≤ 64) : kv_S t U 8 ≤ 1000 := by
  have key : ∀ m, m ≤ 8 → kv_S t U m ≤ 64 * m := by
    intro m
    induction m with
    | zero => intro _; exact Nat.le_refl 0
    | succ m ih =>
      intro hm
      have h1 := ih (by omega)
      have h2 := h m (by omega)
      unfold kv_S
      split <;> omega
  have := key 8 (Nat.le_refl 8)
  omega
theorem kv_bin {x : Int32} (h : x = 0 ∨ x = 1) : ¬ x = 0 ↔ x = 1 := by
  rcases h with h | h
  · rw [h]; decide
  · rw [h]; decide
theorem kv_q2_s {A B β : Type} (a : A) (b : B) (k : A → B → Option β) : kv_q2 (some (a, b)) k = k a b := rfl
theorem kv_32_c {β : Type} (rp rc : Nat → Int32) (p0 : Int32) (i : Nat) (hi : i < 12) (a b X : Option β) : kv_G (nI i) 12 (kv_T (rp (nI i).toNatClampNeg) (fun y_45 => if y_45 = p0 then kv_G (nI i) 12 (kv_T (rc (nI i).toNatClampNeg) (fun y_55 => if y_55 ≤ 0 then a else X)) else b)) = if rp i = p0 then if rc i ≤ 0 then a else X else b := by
  simp only [kv_T, nI_clamp (show i < 2 ^ 31 by omega), kv_gN hi (show i < 2 ^ 31 by omega)]
end KVP12


section KVP13
section LEAST2
variable (co ho ve pr : Nat → Int32) (rg : Int32) (rp rm rc ro : Nat → Int32) (p0 : Int32)
def kv_K0 : Int32 → Int32 → Int32 → Int32 → Int32 → Int32 → (Nat → Int32) → (Nat → Int32) → (Nat → Int32) → (Nat → Int32) → Int32 → Option (Int32 × (Nat → Int32) × (Nat → Int32) × (Nat → Int32) × (Nat → Int32) × Int32) := fun _ _ _ _ _ _ _ _ _ _ _ => none
end LEAST2
end KVP13


section KVP14
section LEAST3
variable (co ho ve pr : Nat → Int32) (rg : Int32) (rp rm rc ro : Nat → Int32) (p0 : Int32)
end LEAST3
theorem kv_reach_0 (use : Nat → Bool) (t c : Nat → Nat → Nat) (cnt : Nat → Nat) : ∀ (k i : Nat) (R : Nat → Prop), R 0 → kv_reach use t c cnt i k R 0 := by
  intro k
  induction k with
  | zero => intro i R h; exact h
  | succ k ih =>
    intro i R h
    rw [kv_reach_S]
    refine ih (i + 1) _ ?_
    cases use i with
    | false => exact h
    | true => exact ⟨0, 0, by omega, by omega, h, by rw [kv_S0]; exact Nat.zero_le _, by rw [kv_O0]; rfl⟩
theorem kv_pick_S (W d : Nat → Nat) (ok : Nat → Bool) (i k L : Nat) : kv_pick W d ok i (k + 1) L = kv_pick W d ok (i + 1) k (if (ok i && kv_less W (d i) L) = true then d i else L) := rfl
theorem kv_pick_1 {W d : Nat → Nat} {ok : Nat → Bool} {L : Nat} (k : Nat) (hd : d 0 = L) : kv_pick W d ok 0 (k + 1) L = kv_pick W d ok 1 k L := by
  rw [kv_pick_S, hd, ite_self]
theorem kv_Fz : ∃ z, kv_F = z + 1 ∧ 66000 < z := ⟨69999, kv_FS, by omega⟩
theorem q_class {kc : Nat → Int32} {fo : Nat → Nat → Int32} {kp qp qm qv qc hs : Nat → Int32} (p0 : Int32) (n : Nat) (hn : n ≤ 12) (hqp : ∀ i, i < n → kv_iv (qp i) 0 3 = true) (hqc : ∀ i, i < n → 0 ≤ qc i ∧ qc i ≤ 500) (h1 : kv_iv p0 0 3 = true) (hM : ∀ i, i < 8 → 1 ≤ kc i ∧ kc i ≤ 64) (hq : 0 ≤ kp p0.toNatClampNeg ∧ kp p0.toNatClampNeg ≤ 1000) (mt mv sw : Nat → Int32) (hv : Int32) (tk : Nat → Int32) (h2 : sw 0 = 0) :
    ∃ (L : Nat) (ok : Nat → Bool) (mt' mv' sw' tk' : Nat → Int32), pf_X2_leastUncovered kc fo kp n qp qm qv qc p0 hs mt mv sw hv tk = some (nI L, mt', mv', sw', nI (kv_hs fo p0.toNatClampNeg), tk') ∧ sw' 0 = 0 ∧ L < 256 ∧ pf_X0_weightOfSet sw' (nI L) = some (nI (kv_S (kv_wN kc fo kp p0.toNatClampNeg) L 8)) ∧ (∀ S, S < 256 → (ok S = true ↔ kv_reach (kv_use qp qc p0 (-1)) (kv_tk kc qm) (fun r j => kv_cv fo qp qm qv hs r (nI j)) (fun r => (qc r).toInt.toNat) 0 n (fun S => S = 0) S)) ∧ L = kv_pick (fun U => kv_S (kv_wN kc fo kp p0.toNatClampNeg) U 8) (kv_d (kv_hs fo p0.toNatClampNeg)) ok 0 256 (kv_hs fo p0.toNatClampNeg) := by
  obtain ⟨sw', tk1, s1, s2, s3⟩ := q_start kc fo kp p0 sw hv tk h1 hM hq h2
  obtain ⟨mt', mv', tk', v', g1, g2, g3, g4⟩ := q_lab kc fo kp n qp qm qv qc hs (-1) p0 sw' (nI (kv_hs fo p0.toNatClampNeg)) hn hqp hqc hM n kv_F 0 mt mv tk1 kv_v0 (fun S => S = 0) (by omega) (kv_Fgt (by omega)) s3 (fun S hS => by unfold kv_v0; by_cases e : S = 0; exact Or.inl (if_pos e); exact Or.inr (if_neg e)) (fun S hS => by unfold kv_v0; split <;> simp_all)
  rw [nI_0] at g1
  have hh := kv_hs_lt fo p0.toNatClampNeg
  have hb : ∀ U, U < 256 → kv_S (kv_wN kc fo kp p0.toNatClampNeg) U 8 ≤ 512000 := fun U _ => by
    have := kv_S_le (U := U) (fun j hj => (kv_wNs (fo := fo) (hM j hj).1 (hM j hj).2 hq.1 hq.2).2) 8 (Nat.le_refl 8)
    omega
  have g5 := q_lu (cnt := 0) (W := fun U => kv_S (kv_wN kc fo kp p0.toNatClampNeg) U 8) s2 hb hh (by omega) g2
  rw [nI_0] at g5
  have hL : kv_pick (fun U => kv_S (kv_wN kc fo kp p0.toNatClampNeg) U 8) (kv_d (kv_hs fo p0.toNatClampNeg)) (fun S => decide (v' S ≤ 0)) 0 256 (kv_hs fo p0.toNatClampNeg) < 256 := kv_pick_lt (fun i => kv_d_lt hh) 256 0 _ hh
  refine ⟨_, fun S => decide (v' S ≤ 0), mt', mv', sw', tk', ?_, ?_, hL, q_ws s2 hL, fun S hS => ?_, rfl⟩
  · unfold pf_X2_leastUncovered pf_X2_layAllBut
    rw [s1]
    simp only [kv_q3]
    rw [g1]
    simp only [kv_q5]
    rw [g5]
    rfl
  · have := s2 0 (by omega)
    rw [kv_S0] at this
    exact this
  · rw [decide_eq_true_iff, ← g4 S hS]
    omega
end KVP14


section KVP15
theorem kv_q6_s {A B C E F G β : Type} (a : A) (b : B) (c : C) (d : E) (e : F) (f : G) (k : A → B → C → E → F → G → Option β) : kv_q6 (some (a, b, c, d, e, f)) k = k a b c d e f := rfl
theorem kv_x0_s {β : Type} (k : Option (β ⊕ Nat)) : kv_x0 (some (.inl ())) k = k := rfl
theorem kv_q1_s {A β : Type} (a : A) (k : A → Option β) : kv_q1 (some a) k = k a := rfl
theorem kv_reach_c {use use' : Nat → Bool} {t c : Nat → Nat → Nat} {cnt cnt' : Nat → Nat} : ∀ (k i : Nat) (R : Nat → Prop), (∀ j, i ≤ j → j < i + k → use j = use' j ∧ cnt j = cnt' j) → kv_reach use t c cnt i k R = kv_reach use' t c cnt' i k R := by
  intro k
  induction k with
  | zero => intro i R _; rfl
  | succ k ih =>
    intro i R h
    obtain ⟨h1, h2⟩ := h i (Nat.le_refl i) (by omega)
    rw [kv_reach_S, kv_reach_S, h1, h2]
    exact ih (i + 1) _ (fun j a b => h j (by omega) (by omega))
theorem q_re (kc : Nat → Int32) (fo : Nat → Nat → Int32) (qp qm qv qc hs rc : Nat → Int32) (p0 : Int32) (n : Nat) (h : ∀ i, i < n → qc i = rc i) : ∀ (k i : Nat) (R : Nat → Prop), i + k = n → kv_reach (kv_use qp qc p0 (-1)) (kv_tk kc qm) (fun r j => kv_cv fo qp qm qv hs r (nI j)) (fun r => (qc r).toInt.toNat) i k R = kv_reach (kv_use qp rc p0 (-1)) (kv_tk kc qm) (fun r j => kv_cv fo qp qm qv hs r (nI j)) (fun r => (rc r).toInt.toNat) i k R := by
  intro k i R hk
  refine kv_reach_c k i R (fun j h1 h2 => ?_)
  have e := h j (by omega)
  exact ⟨by unfold kv_use; rw [e], congrArg (fun x : Int32 => x.toInt.toNat) e⟩
theorem kv_same_pick {W d : Nat → Nat} {h : Nat} {ok ok2 : Nat → Bool} {L L2 : Nat} {P P2 : Nat → Prop} (h5 : ∀ S, S < 256 → (ok S = true ↔ P S)) (w4 : ∀ S, S < 256 → (ok2 S = true ↔ P2 S)) (hre : P = P2) (g6 : L = kv_pick W d ok 0 256 h) (w5 : L2 = kv_pick W d ok2 0 256 h) : L = L2 := by
  rw [g6, w5]
  refine kv_pick_c 256 0 _ (fun j _ hj => ?_)
  rw [Bool.eq_iff_iff, h5 j (by omega), w4 j (by omega), hre]
end KVP15
