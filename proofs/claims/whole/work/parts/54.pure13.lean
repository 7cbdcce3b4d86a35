section KVP13
section LEAST2
variable (co ho ve pr : Nat → Int32) (rg : Int32) (rp rm rc ro : Nat → Int32) (p0 : Int32)
theorem kv_191_b (k2) (x2 : Int32) (m : Nat) (cn tn tk sp : Nat → Int32) (ba : Int32) (hm : m < 8) (h1 : kv_iv p0 0 3 = true) : pf_X3_least_191b co ho ve pr rg rp rm rc ro p0 k2 x2 (nI m) cn tn tk sp ba = if ve (4 * m + p0.toNatClampNeg) ≤ 0 then k2 (x2 ||| 0) (nI (m + 1)) cn tn tk sp ba else k2 (x2 ||| nI (2 ^ m)) (nI (m + 1)) cn tn tk sp ba := by
  have hc : (4 * nI m + p0).toNatClampNeg = 4 * m + p0.toNatClampNeg := by rw [kv_c32 (kv_ivN hm) h1, nI_clamp (by omega)]
  unfold pf_X3_least_191b pf_X3_least_218
  rw [if_neg (fun d => by have := (kv_ge8 (by omega)).mp d; omega), kv_g32 (kv_ivN hm) h1, hc, kv_bit hm, nI_1]
  rfl
theorem q_191 (fo : Nat → Nat → Int32) (cn tn tk sp : Nat → Int32) (ba : Int32) (h1 : kv_iv p0 0 3 = true) (hF : ∀ i, i < 8 → ve (4 * i + p0.toNatClampNeg) = fo i p0.toNatClampNeg) : ∀ (k f m h : Nat), m + k = 8 → k < f → h < 256 → pf_X3_least_191 co ho ve pr rg rp rm rc ro p0 f (nI h) (nI m) cn tn tk sp ba = pf_X3_least_231 co ho ve pr rg rp rm rc ro p0 kv_F (nI (kv_or (fun j => !decide (fo j p0.toNatClampNeg ≤ 0)) m k h)) (-1) 0 cn tn tk sp ba := by
  intro k
  induction k with
  | zero =>
    intro f m h hi hf hh
    obtain ⟨f, rfl⟩ : ∃ z, f = z + 1 := ⟨f - 1, by omega⟩
    rw [pf_X3_least_191.eq_2]
    unfold pf_X3_least_191b
    rw [if_pos ((kv_ge8 (by omega)).mpr (by omega))]
    unfold kv_or
    exact Eq.refl _
  | succ k ih =>
    intro f m h hi hf hh
    obtain ⟨f, rfl⟩ : ∃ z, f = z + 1 := ⟨f - 1, by omega⟩
    have hm : m < 8 := by omega
    have hp := kv_p2 hm
    rw [pf_X3_least_191.eq_2, kv_191_b co ho ve pr rg rp rm rc ro p0 _ (nI h) m cn tn tk sp ba hm h1, hF m hm]
    have hu : kv_or (fun j => !decide (fo j p0.toNatClampNeg ≤ 0)) m (k + 1) h = kv_or (fun j => !decide (fo j p0.toNatClampNeg ≤ 0)) (m + 1) k (if (!decide (fo m p0.toNatClampNeg ≤ 0)) = true then h ||| 2 ^ m else h) := rfl
    rw [hu]
    by_cases c : fo m p0.toNatClampNeg ≤ 0
    · rw [if_pos c, decide_eq_true c, show nI h ||| 0 = nI h from by rw [← nI_0, kv_or32 (by omega) (by omega), Nat.or_zero], if_neg (by decide)]
      exact ih f (m + 1) h (by omega) (by omega) hh
    · rw [if_neg c, decide_eq_false c, kv_or32 (by omega) (by omega), if_pos (by decide)]
      exact ih f (m + 1) (h ||| 2 ^ m) (by omega) (by omega) (kv_orb hh hp)
def kv_K0 : Int32 → Int32 → Int32 → Int32 → Int32 → Int32 → (Nat → Int32) → (Nat → Int32) → (Nat → Int32) → (Nat → Int32) → Int32 → Option (Int32 × (Nat → Int32) × (Nat → Int32) × (Nat → Int32) × (Nat → Int32) × Int32) := fun _ _ _ _ _ _ _ _ _ _ _ => none
theorem q_253 (k231) (x2 x3 x4 : Int32) (o : Nat) (w : Nat → Nat) (cn tn tk sp : Nat → Int32) (ba : Int32) (ho8 : o < 256) (hw : ∀ m, m < 8 → pf_X3_weighs co ve pr (nI m) p0 = some (nI (w m))) : ∀ (k f m : Nat), m + k = 8 → k < f → pf_X3_least_253 co ho ve pr rg rp rm rc ro p0 k231 f x2 x3 x4 (nI o) (nI (kv_S w o m)) (nI m) cn tn tk sp ba = pf_X3_least_253b co ho ve pr rg rp rm rc ro p0 k231 kv_K0 x2 x3 x4 (nI o) (nI (kv_S w o 8)) (nI 8) cn tn tk sp ba := by
  intro k
  induction k with
  | zero =>
    intro f m hi hf
    obtain ⟨f, rfl⟩ : ∃ z, f = z + 1 := ⟨f - 1, by omega⟩
    have e : m = 8 := by omega
    rw [pf_X3_least_253.eq_2, e]
    unfold pf_X3_least_253b
    rw [if_pos ((kv_ge8 (i := 8) (by omega)).mpr (by omega)), if_pos ((kv_ge8 (i := 8) (by omega)).mpr (by omega))]
  | succ k ih =>
    intro f m hi hf
    obtain ⟨f, rfl⟩ : ∃ z, f = z + 1 := ⟨f - 1, by omega⟩
    have hm : m < 8 := by omega
    have hS : kv_S w o (m + 1) = kv_S w o m + (if o.testBit m = true then w m else 0) := rfl
    have h := ih f (m + 1) (by omega) (by omega)
    rw [← h, hS, pf_X3_least_253.eq_2]
    unfold pf_X3_least_253b pf_X3_least_284
    rw [if_neg (fun d => by have := (kv_ge8 (by omega)).mp d; omega), kv_shr ho8 hm, hw m hm]
    simp only [kv_q1, kv_T, nI_1]
    cases c : o.testBit m with
    | true => rw [if_pos (if_pos rfl), if_pos rfl, nI_add]
    | false => rw [if_neg (by rw [if_neg (by decide)]; decide), if_neg (by decide), ← nI_0, nI_add]
theorem kv_253_fin (k231) (x2 x3 : Int32) (i o s : Nat) (cn tn tk sp : Nat → Int32) (ba : Int32) (hi : i < 256) : pf_X3_least_253b co ho ve pr rg rp rm rc ro p0 k231 kv_K0 x2 x3 (nI i) (nI o) (nI s) (nI 8) cn tn tk sp ba = if ¬ cn i = 0 ∧ (x3 = -1 ∨ nI s < x3 ∨ (nI s = x3 ∧ ¬ ba ≤ nI o)) then k231 x2 (nI s) (nI (i + 1)) cn tn tk sp (nI o) else k231 x2 x3 (nI (i + 1)) cn tn tk sp ba := by
  have h10 : ¬ ((1 : Int32) = 0) := by decide
  unfold pf_X3_least_253b pf_X3_least_334 pf_X3_least_347 pf_X3_least_363
  rw [if_pos ((kv_ge8 (i := 8) (by omega)).mpr (by omega)), kv_gN hi (by omega)]
  simp only [kv_T, nI_clamp (show i < 2 ^ 31 by omega), nI_1]
  by_cases c1 : cn i = 0
  · rw [if_pos c1, if_pos trivial, if_pos trivial, if_neg (fun q => q.1 c1)]
  · rw [if_neg c1]
    by_cases c2 : x3 = -1
    · rw [if_pos c2, if_neg h10, if_neg h10, if_pos ⟨c1, Or.inl c2⟩]
    · rw [if_neg c2]
      by_cases c3 : nI s < x3
      · rw [if_pos c3, if_neg h10, if_neg h10, if_pos ⟨c1, Or.inr (Or.inl c3)⟩]
      · rw [if_neg c3]
        by_cases c4 : nI s = x3
        · rw [if_pos c4]
          by_cases c5 : ba ≤ nI o
          · rw [if_pos c5, if_pos trivial, if_pos trivial, if_neg (fun q => q.2.elim c2 (fun q => q.elim c3 (fun q => q.2 c5)))]
          · rw [if_neg c5, if_neg h10, if_neg h10, if_pos ⟨c1, Or.inr (Or.inr ⟨c4, c5⟩)⟩]
        · rw [if_neg c4, if_pos trivial, if_pos trivial, if_neg (fun q => q.2.elim c2 (fun q => q.elim c3 (fun q => c4 q.1)))]
theorem kv_231_b (k231) (x3 : Int32) (h i : Nat) (w : Nat → Nat) (cn tn tk sp : Nat → Int32) (ba : Int32) (hh : h < 256) (hi : i < 256) (hw : ∀ m, m < 8 → pf_X3_weighs co ve pr (nI m) p0 = some (nI (w m))) : pf_X3_least_231b co ho ve pr rg rp rm rc ro p0 k231 (nI h) x3 (nI i) cn tn tk sp ba = if ¬ cn i = 0 ∧ (x3 = -1 ∨ nI (kv_S w (kv_d h i) 8) < x3 ∨ (nI (kv_S w (kv_d h i) 8) = x3 ∧ ¬ ba ≤ nI (kv_d h i))) then k231 (nI h) (nI (kv_S w (kv_d h i) 8)) (nI (i + 1)) cn tn tk sp (nI (kv_d h i)) else k231 (nI h) x3 (nI (i + 1)) cn tn tk sp ba := by
  have h253 := q_253 co ho ve pr rg rp rm rc ro p0 k231 (nI h) x3 (nI i) (kv_d h i) w cn tn tk sp ba (kv_d_lt hh) hw 8 kv_F 0 (by omega) (kv_Fgt (by omega))
  have h0 : nI (kv_S w (kv_d h i) 0) = 0 := rfl
  rw [h0, nI_0] at h253
  unfold pf_X3_least_231b
  rw [if_neg (fun d => by have := (kv_ge256 (by omega)).mp d; omega), kv_dI]
  exact h253.trans (kv_253_fin co ho ve pr rg rp rm rc ro p0 k231 (nI h) x3 i (kv_d h i) (kv_S w (kv_d h i) 8) cn tn tk sp ba hi)
theorem q_231 (h : Nat) (w : Nat → Nat) (cn tn tk sp : Nat → Int32) (hh : h < 256) (hw : ∀ m, m < 8 → pf_X3_weighs co ve pr (nI m) p0 = some (nI (w m))) (hb : ∀ U, kv_S w U 8 ≤ 512000) : ∀ (k f i L : Nat), i + k = 256 → k < f → L < 256 → pf_X3_least_231 co ho ve pr rg rp rm rc ro p0 f (nI h) (nI (kv_S w L 8)) (nI i) cn tn tk sp (nI L) = some (nI (kv_S w (kv_pick (fun U => kv_S w U 8) (kv_d h) (fun S => !decide (cn S = 0)) i k L) 8), cn, tn, tk, sp, nI (kv_pick (fun U => kv_S w U 8) (kv_d h) (fun S => !decide (cn S = 0)) i k L)) := by
  intro k
  induction k with
  | zero =>
    intro f i L hi hf hL
    obtain ⟨f, rfl⟩ : ∃ z, f = z + 1 := ⟨f - 1, by omega⟩
    rw [pf_X3_least_231.eq_2]
    unfold pf_X3_least_231b
    rw [if_pos ((kv_ge256 (by omega)).mpr (by omega))]
    rfl
  | succ k ih =>
    intro f i L hi hf hL
    obtain ⟨f, rfl⟩ : ∃ z, f = z + 1 := ⟨f - 1, by omega⟩
    have hd : kv_d h i < 256 := kv_d_lt hh
    have b1 := hb (kv_d h i)
    have b2 := hb L
    have hk : kv_pick (fun U => kv_S w U 8) (kv_d h) (fun S => !decide (cn S = 0)) i (k + 1) L = kv_pick (fun U => kv_S w U 8) (kv_d h) (fun S => !decide (cn S = 0)) (i + 1) k (if ((!decide (cn i = 0)) && kv_less (fun U => kv_S w U 8) (kv_d h i) L) = true then kv_d h i else L) := rfl
    have hn1 : ¬ nI (kv_S w L 8) = -1 := fun c => by
      have := congrArg Int32.toInt c
      rw [nI_toInt (by omega), kv_in1] at this
      omega
    have hiff : (¬ cn i = 0 ∧ (nI (kv_S w L 8) = -1 ∨ nI (kv_S w (kv_d h i) 8) < nI (kv_S w L 8) ∨ (nI (kv_S w (kv_d h i) 8) = nI (kv_S w L 8) ∧ ¬ nI L ≤ nI (kv_d h i)))) ↔ ((!decide (cn i = 0)) && kv_less (fun U => kv_S w U 8) (kv_d h i) L) = true := by
      unfold kv_less
      simp only [Bool.and_eq_true, Bool.or_eq_true, Bool.not_eq_true', decide_eq_true_eq, decide_eq_false_iff_not]
      rw [nI_ltI (by omega) (by omega), nI_eq (by omega) (by omega), nI_leI (by omega) (by omega)]
      constructor
      · rintro ⟨q1, q2 | q2 | ⟨q2, q3⟩⟩
        · exact absurd q2 hn1
        · exact ⟨q1, Or.inl q2⟩
        · exact ⟨q1, Or.inr ⟨q2, by omega⟩⟩
      · rintro ⟨q1, q2 | ⟨q2, q3⟩⟩
        · exact ⟨q1, Or.inr (Or.inl q2)⟩
        · exact ⟨q1, Or.inr (Or.inr ⟨q2, by omega⟩)⟩
    rw [pf_X3_least_231.eq_2, kv_231_b co ho ve pr rg rp rm rc ro p0 _ _ h i w cn tn tk sp (nI L) hh (by omega) hw, hk]
    by_cases c : ((!decide (cn i = 0)) && kv_less (fun U => kv_S w U 8) (kv_d h i) L) = true
    · rw [if_pos (hiff.mpr c), if_pos c]
      exact ih f (i + 1) (kv_d h i) (by omega) (by omega) hd
    · rw [if_neg (fun q => c (hiff.mp q)), if_neg c]
      exact ih f (i + 1) L (by omega) (by omega) hL
end LEAST2
end KVP13
