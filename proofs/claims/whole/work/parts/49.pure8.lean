section KVP8
def kv_d (h i : Nat) : Nat := (nI h &&& (nI i ^^^ (-1))).toBitVec.toNat
theorem kv_dI (h i : Nat) : nI h &&& (nI i ^^^ (-1)) = nI (kv_d h i) := by
  apply Int32.toBitVec_inj.mp
  apply BitVec.eq_of_toNat_eq
  have hl : kv_d h i < 2 ^ 32 := BitVec.isLt _
  rw [pk_tn hl]
  rfl
theorem kv_d_lt {h i : Nat} (hh : h < 256) : kv_d h i < 256 := by
  unfold kv_d
  rw [Int32.toBitVec_and, BitVec.toNat_and, pk_tn (by omega)]
  exact Nat.lt_of_le_of_lt Nat.and_le_left hh
theorem kv_d_0 {h : Nat} (hh : h < 256) : kv_d h 0 = h := by
  unfold kv_d
  rw [show nI 0 ^^^ (-1) = -1 from by decide, Int32.toBitVec_and, BitVec.toNat_and, pk_tn (by omega), show (-1 : Int32).toBitVec.toNat = 2 ^ 32 - 1 from by decide, Nat.and_two_pow_sub_one_eq_mod, Nat.mod_eq_of_lt (by omega)]
def kv_less (W : Nat → Nat) (a b : Nat) : Bool := decide (W a < W b) || (decide (W a = W b) && decide (a < b))
def kv_pick (W d : Nat → Nat) (ok : Nat → Bool) : Nat → Nat → Nat → Nat
  | _, 0, L => L
  | i, k + 1, L => kv_pick W d ok (i + 1) k (if (ok i && kv_less W (d i) L) = true then d i else L)
theorem kv_pick_lt {W d : Nat → Nat} {ok : Nat → Bool} (hd : ∀ i, d i < 256) : ∀ (k i L : Nat), L < 256 → kv_pick W d ok i k L < 256 := by
  intro k
  induction k with
  | zero => intro i L h; exact h
  | succ k ih =>
    intro i L h
    refine ih (i + 1) _ ?_
    split
    · exact hd i
    · exact h
theorem kv_pick_c {W d : Nat → Nat} {ok ok' : Nat → Bool} : ∀ (k i L : Nat), (∀ j, i ≤ j → j < i + k → ok j = ok' j) → kv_pick W d ok i k L = kv_pick W d ok' i k L := by
  intro k
  induction k with
  | zero => intro i L _; rfl
  | succ k ih =>
    intro i L h
    show kv_pick W d ok (i + 1) k _ = kv_pick W d ok' (i + 1) k _
    rw [h i (Nat.le_refl i) (by omega), ih (i + 1) _ (fun j a b => h j (by omega) (by omega))]
theorem q_ws {sw : Nat → Int32} {W : Nat → Nat} (hW : ∀ U, U < 256 → sw U = nI (W U)) {a : Nat} (ha : a < 256) : pf_X0_weightOfSet sw (nI a) = some (nI (W a)) := by
  have e : nI a &&& 255 = nI a := by rw [pk_andN (by omega) 8 (by decide), Nat.mod_eq_of_lt ha]
  unfold pf_X0_weightOfSet
  rw [e, kv_gN ha (by omega)]
  simp only [kv_T, nI_clamp (show a < 2 ^ 31 by omega), hW a ha]
theorem q_less {sw : Nat → Int32} {W : Nat → Nat} (hW : ∀ U, U < 256 → sw U = nI (W U)) (hb : ∀ U, U < 256 → W U ≤ 512000) {a b : Nat} (ha : a < 256) (hbb : b < 256) : pf_X0_isLess sw (nI a) (nI b) = some (if kv_less W a b = true then 1 else 0) := by
  have h1 := hb a ha
  have h2 := hb b hbb
  have e := pk_sub_toInt (a := W a) (b := W b) (by omega) (by omega)
  unfold pf_X0_isLess kv_less
  rw [q_ws hW ha, q_ws hW hbb]
  simp only [kv_q1, kv_T]
  by_cases c : W a < W b
  · rw [if_pos (by rw [Int32.lt_iff_toInt_lt, e, kv_i0]; omega)]
    simp [c]
  · rw [if_neg (by rw [Int32.lt_iff_toInt_lt, e, kv_i0]; omega)]
    by_cases d : W a = W b
    · rw [if_pos (by apply Int32.toInt_inj.mp; rw [e, kv_i0]; omega)]
      by_cases g : a < b
      · rw [if_neg (fun q => by have := (nI_leI (by omega) (by omega)).mp q; omega)]
        simp [d, g]
      · rw [if_pos ((nI_leI (by omega) (by omega)).mpr (by omega))]
        simp [d, g]
    · rw [if_neg (fun q => by have q2 := congrArg Int32.toInt q; rw [e, kv_i0] at q2; omega)]
      simp [c, d]
theorem q_luw (sw tk : Nat → Int32) (h cnt : Nat) (W v : Nat → Nat) (hW : ∀ U, U < 256 → sw U = nI (W U)) (hb : ∀ U, U < 256 → W U ≤ 512000) (hh : h < 256) (hc : cnt ≤ 500) (hv : kv_is tk v) : ∀ (k f i L : Nat), i + k = 256 → k < f → L < 256 → pf_X0_leastUncoveredWithin_7 sw (nI h) tk (nI cnt) f (nI L) (nI i) = some (nI (kv_pick W (kv_d h) (fun S => decide (v S ≤ cnt)) i k L)) := by
  intro k
  induction k with
  | zero =>
    intro f i L hi hf hL
    obtain ⟨f, rfl⟩ : ∃ z, f = z + 1 := ⟨f - 1, by omega⟩
    rw [pf_X0_leastUncoveredWithin_7.eq_2]
    unfold pf_X0_leastUncoveredWithin_7b
    rw [if_pos ((kv_ge256 (by omega)).mpr (by omega))]
    rfl
  | succ k ih =>
    intro f i L hi hf hL
    obtain ⟨f, rfl⟩ : ∃ z, f = z + 1 := ⟨f - 1, by omega⟩
    have hi2 : i < 256 := by omega
    obtain ⟨v1, v2⟩ := hv i hi2
    have hd : kv_d h i < 256 := kv_d_lt hh
    have step : ∀ k2 : Int32 → Int32 → Option Int32, pf_X0_leastUncoveredWithin_7b sw (nI h) tk (nI cnt) k2 (nI L) (nI i) = k2 (nI (if (decide (v i ≤ cnt) && kv_less W (kv_d h i) L) = true then kv_d h i else L)) (nI (i + 1)) := by
      intro k2
      unfold pf_X0_leastUncoveredWithin_7b
      rw [if_neg (fun d => by have := (kv_ge256 (by omega)).mp d; omega), kv_dI]
      simp only [kv_T, kv_gN hi2 (show i < 2 ^ 31 by omega), nI_clamp (show i < 2 ^ 31 by omega), v1, nI_1, q_less hW hb hd hL, kv_q1]
      by_cases c : v i ≤ cnt
      · rw [if_neg (fun q => by have := (nI_ltI (by omega) (by omega)).mp q; omega)]
        cases g : kv_less W (kv_d h i) L <;> simp [c]
      · rw [if_pos ((nI_ltI (by omega) (by omega)).mpr (by omega))]
        simp [c]
    rw [pf_X0_leastUncoveredWithin_7.eq_2, step]
    refine ih f (i + 1) _ (by omega) (by omega) ?_
    split
    · exact hd
    · exact hL
theorem q_lu {sw tk : Nat → Int32} {h cnt : Nat} {W v : Nat → Nat} (hW : ∀ U, U < 256 → sw U = nI (W U)) (hb : ∀ U, U < 256 → W U ≤ 512000) (hh : h < 256) (hc : cnt ≤ 500) (hv : kv_is tk v) : pf_X0_leastUncoveredWithin sw (nI h) tk (nI cnt) = some (nI (kv_pick W (kv_d h) (fun S => decide (v S ≤ cnt)) 0 256 h)) := q_luw sw tk h cnt W v hW hb hh hc hv 256 kv_F 0 h (by omega) (kv_Fgt (by omega)) hh
theorem q_ltf (sw tk : Nat → Int32) (h g : Nat) (W v : Nat → Nat) (hW : ∀ U, U < 256 → sw U = nI (W U)) (hb : ∀ U, U < 256 → W U ≤ 512000) (hg : g ≤ 512000) (hh : h < 256) (hv : kv_is tk v) : ∀ (k f i M : Nat), i + k = 256 → k < f → M ≤ 1000000 → (∀ x, x < 1000000 → (M ≤ x ↔ ∃ S, S < i ∧ W (kv_d h S) = g ∧ v S ≤ x)) → ∃ M', pf_X0_leastTakenFor_5 sw (nI h) tk (nI g) f (nI M) (nI i) = some (nI M') ∧ M' ≤ 1000000 ∧ ∀ x, x < 1000000 → (M' ≤ x ↔ ∃ S, S < 256 ∧ W (kv_d h S) = g ∧ v S ≤ x) := by
  intro k
  induction k with
  | zero =>
    intro f i M hi hf hM hI
    obtain ⟨f, rfl⟩ : ∃ z, f = z + 1 := ⟨f - 1, by omega⟩
    refine ⟨M, ?_, hM, ?_⟩
    · rw [pf_X0_leastTakenFor_5.eq_2]
      unfold pf_X0_leastTakenFor_5b
      rw [if_pos ((kv_ge256 (by omega)).mpr (by omega))]
    · rw [show i = 256 by omega] at hI
      exact hI
  | succ k ih =>
    intro f i M hi hf hM hI
    obtain ⟨f, rfl⟩ : ∃ z, f = z + 1 := ⟨f - 1, by omega⟩
    have hi2 : i < 256 := by omega
    obtain ⟨v1, v2⟩ := hv i hi2
    have hd : kv_d h i < 256 := kv_d_lt hh
    have hWd := hb _ hd
    have step : ∀ k2 : Int32 → Int32 → Option Int32, pf_X0_leastTakenFor_5b sw (nI h) tk (nI g) k2 (nI M) (nI i) = k2 (nI (if W (kv_d h i) = g then min (v i) M else M)) (nI (i + 1)) := by
      intro k2
      unfold pf_X0_leastTakenFor_5b
      rw [if_neg (fun d => by have := (kv_ge256 (by omega)).mp d; omega), kv_dI, q_ws hW hd]
      simp only [kv_q1, kv_T, nI_clamp (show i < 2 ^ 31 by omega), v1, nI_1, kv_gN hi2 (show i < 2 ^ 31 by omega), kv_min (show v i < 2 ^ 31 by omega) (show M < 2 ^ 31 by omega)]
      by_cases c : W (kv_d h i) = g
      · rw [if_pos (by rw [c]), if_pos c]
      · rw [if_neg (fun q => c ((nI_eq (by omega) (by omega)).mp q)), if_neg c]
    rw [pf_X0_leastTakenFor_5.eq_2, step]
    refine ih f (i + 1) _ (by omega) (by omega) ?_ (fun x hx => ?_)
    · split <;> omega
    · by_cases c : W (kv_d h i) = g
      · rw [if_pos c]
        have hm : min (v i) M ≤ x ↔ v i ≤ x ∨ M ≤ x := by omega
        rw [hm, hI x hx]
        constructor
        · rintro (q | ⟨S, q1, q2, q3⟩)
          · exact ⟨i, by omega, c, q⟩
          · exact ⟨S, by omega, q2, q3⟩
        · rintro ⟨S, q1, q2, q3⟩
          by_cases e : S = i
          · exact Or.inl (by rw [← e]; exact q3)
          · exact Or.inr ⟨S, by omega, q2, q3⟩
      · rw [if_neg c, hI x hx]
        constructor
        · rintro ⟨S, q1, q2, q3⟩
          exact ⟨S, by omega, q2, q3⟩
        · rintro ⟨S, q1, q2, q3⟩
          exact ⟨S, by have : S ≠ i := fun e => c (by rw [← e]; exact q2); omega, q2, q3⟩
theorem q_lt {sw tk : Nat → Int32} {h g : Nat} {W v : Nat → Nat} (hW : ∀ U, U < 256 → sw U = nI (W U)) (hb : ∀ U, U < 256 → W U ≤ 512000) (hg : g ≤ 512000) (hh : h < 256) (hv : kv_is tk v) : ∃ M', pf_X0_leastTakenFor sw (nI h) tk (nI g) = some (nI M') ∧ M' ≤ 1000000 ∧ ∀ x, x < 1000000 → (M' ≤ x ↔ ∃ S, S < 256 ∧ W (kv_d h S) = g ∧ v S ≤ x) :=
  q_ltf sw tk h g W v hW hb hg hh hv 256 kv_F 0 1000000 (by omega) (kv_Fgt (by omega)) (Nat.le_refl _) (fun x hx => ⟨fun q => by omega, fun ⟨S, q, _⟩ => absurd q (Nat.not_lt_zero S)⟩)
end KVP8
