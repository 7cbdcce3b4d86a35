section KVP10
theorem kv_sm {m : Nat} (hm : m < 8) : ((nI m &&& 31).toBitVec.smod 32).toNat = m :=
  kv_8 (P := fun m => ((nI m &&& 31).toBitVec.smod 32).toNat = m) (by decide) (by decide) (by decide) (by decide) (by decide) (by decide) (by decide) (by decide) hm
theorem kv_shr {U m : Nat} (hU : U < 256) (hm : m < 8) : (nI U >>> (nI m &&& 31)) &&& 1 = if U.testBit m = true then 1 else 0 := by
  have hle : U / 2 ^ m ≤ U := Nat.div_le_self _ _
  rw [pk_shrN (by omega) _ m (kv_sm hm), pk_andN (by omega) 1 (by decide), Nat.testBit_eq_decide_div_mod_eq]
  have h2 : U / 2 ^ m % 2 < 2 := Nat.mod_lt _ (by decide)
  by_cases c : U / 2 ^ m % 2 = 1
  · rw [if_pos (by rw [decide_eq_true c])]
    show nI (U / 2 ^ m % 2 ^ 1) = 1
    rw [Nat.pow_one, c]
    rfl
  · rw [if_neg (by rw [decide_eq_false c]; decide)]
    show nI (U / 2 ^ m % 2 ^ 1) = 0
    rw [Nat.pow_one, show U / 2 ^ m % 2 = 0 by omega]
    rfl
theorem kv_bits0 : ∀ U, U < 256 → (∀ j, j < 8 → U.testBit j = false) → U = 0 := by decide +kernel
theorem kv_bitsub : ∀ U, U < 256 → ∀ l, l < 8 → U.testBit l = true → 2 ^ l ≤ U ∧ ∀ j, j < 8 → (U - 2 ^ l).testBit j = (U.testBit j && !decide (j = l)) := by decide +kernel
theorem kv_S_sub {t : Nat → Nat} {U l : Nat} (hU : U < 256) (hl : l < 8) (h : U.testBit l = true) : kv_S t U 8 = kv_S t (U - 2 ^ l) 8 + t l := by
  have hb := (kv_bitsub U hU l hl h).2
  have key : ∀ m, m ≤ 8 → kv_S t U m = kv_S t (U - 2 ^ l) m + (if l < m then t l else 0) := by
    intro m
    induction m with
    | zero => intro _; rfl
    | succ m ih =>
      intro hm
      have h1 := ih (by omega)
      show kv_S t U m + (if U.testBit m = true then t m else 0) = kv_S t (U - 2 ^ l) m + (if (U - 2 ^ l).testBit m = true then t m else 0) + _
      rw [h1, hb m (by omega)]
      by_cases e : m = l
      · rw [e, h]
        simp
      · by_cases e2 : l < m
        · cases U.testBit m <;> simp [e, e2, show l < m + 1 by omega] <;> omega
        · cases U.testBit m <;> simp [e, e2, show ¬ l < m + 1 by omega]
  rw [key 8 (Nat.le_refl 8), if_pos hl]
theorem kv_O_sub {c : Nat → Nat} {U l : Nat} (hU : U < 256) (hl : l < 8) (h : U.testBit l = true) : kv_O c U 8 = kv_O c (U - 2 ^ l) 8 ||| c l := by
  have hb := (kv_bitsub U hU l hl h).2
  have key : ∀ m, m ≤ 8 → kv_O c U m = kv_O c (U - 2 ^ l) m ||| (if l < m then c l else 0) := by
    intro m
    induction m with
    | zero => intro _; simp [kv_O]
    | succ m ih =>
      intro hm
      have h1 := ih (by omega)
      show kv_O c U m ||| (if U.testBit m = true then c m else 0) = (kv_O c (U - 2 ^ l) m ||| (if (U - 2 ^ l).testBit m = true then c m else 0)) ||| _
      rw [h1, hb m (by omega)]
      by_cases e : m = l
      · rw [e, h]
        simp
      · by_cases e2 : l < m
        · cases U.testBit m
          · simp [e, e2, show l < m + 1 by omega]
          · simp [e, e2, show l < m + 1 by omega]
            rw [Nat.or_assoc, Nat.or_assoc, Nat.or_comm (c l)]
        · cases U.testBit m <;> simp [e, e2, show ¬ l < m + 1 by omega]
  rw [key 8 (Nat.le_refl 8), if_pos hl]
/-- what the reference's rows must hold of the keeper's right r -/
def kv_same (kc : Nat → Int32) (fo : Nat → Nat → Int32) (qp qm qv hs : Nat → Int32) (r : Nat) (co ho ve rp rm ro : Nat → Int32) : Prop := r < 12 ∧ kv_iv (qp r) 0 3 = true ∧ rp r = qp r ∧ rm r = qm r ∧ ro r = qv r ∧ (∀ i, i < 8 → ho i = hs i ∧ co i = kc i ∧ 1 ≤ kc i ∧ kc i ≤ 64) ∧ ∀ i j, i < 8 → j < 4 → ve (4 * i + j) = fo i j
theorem kv_sp_59 {kc : Nat → Int32} {fo : Nat → Nat → Int32} {qp qm qv hs : Nat → Int32} {r : Nat} {co ho ve rp rm ro : Nat → Int32} (hs0 : kv_same kc fo qp qm qv hs r co ho ve rp rm ro) (k2 : Int32 → (Nat → Int32) → (Nat → Int32) → Option ((Nat → Int32) × (Nat → Int32))) {U l : Nat} (hU : U < 256) (hl : l < 8) (h : U.testBit l = true) (tk sp : Nat → Int32) (z : Nat) (e1 : tk (U - 2 ^ l) = nI (kv_S (kv_tk kc qm r) (U - 2 ^ l) 8)) (e2 : sp (U - 2 ^ l) = nI (kv_O (fun j => kv_cv fo qp qm qv hs r (nI j)) (U - 2 ^ l) 8)) (hz : z = kv_tk kc qm r l) :
    pf_X3_spreads_59 co ho ve rp rm ro (nI r) k2 (nI U) (nI l) (nI z) tk sp = k2 (nI (U + 1)) (upd tk U (nI (kv_S (kv_tk kc qm r) U 8))) (upd sp U (nI (kv_O (fun j => kv_cv fo qp qm qv hs r (nI j)) U 8))) := by
  obtain ⟨a1, a2, a3, a4, a5, a6, a7⟩ := hs0
  have hp := kv_p2 hl
  have hle := (kv_bitsub U hU l hl h).1
  have hcv := q_cv3 fo qp qm qv hs r ho ve rp rm ro (nI r) (nI l) (nI_clamp (by omega)) (fun k => kv_gN a1 (by omega) k) a2 a3 a4 a5 (fun i hi => (a6 i hi).1) (fun i hi => a7 i _ hi (kv_c4 a2))
  have hO : kv_O (fun j => kv_cv fo qp qm qv hs r (nI j)) (U - 2 ^ l) 8 < 256 := kv_O_lt 8 (fun j _ => kv_cv_lt _ _ _ _ _ _ _)
  have hor : nI (kv_O (fun j => kv_cv fo qp qm qv hs r (nI j)) (U - 2 ^ l) 8) ||| nI (kv_cv fo qp qm qv hs r (nI l)) = nI (kv_O (fun j => kv_cv fo qp qm qv hs r (nI j)) U 8) := by
    rw [kv_or32 (by omega) (by have := kv_cv_lt fo qp qm qv hs r (nI l); omega), kv_O_sub hU hl h]
  have hV : U - 2 ^ l < 256 := Nat.lt_of_le_of_lt (Nat.sub_le _ _) hU
  have hV2 : U - 2 ^ l < 2 ^ 31 := Nat.lt_trans hV (by decide)
  unfold pf_X3_spreads_59
  simp only [kv_T, kv_bit hl, pk_sub hle, nI_clamp hV2, nI_clamp (show U < 2 ^ 31 by omega), kv_gN hV hV2, kv_gN hU (show U < 2 ^ 31 by omega), e1, e2, nI_add, nI_1, hcv, kv_q1, hor, hz, ← kv_S_sub hU hl h]
theorem q_sp11 {kc : Nat → Int32} {fo : Nat → Nat → Int32} {qp qm qv hs : Nat → Int32} {r : Nat} {co ho ve rp rm ro : Nat → Int32} (hs0 : kv_same kc fo qp qm qv hs r co ho ve rp rm ro) (k2 : Int32 → (Nat → Int32) → (Nat → Int32) → Option ((Nat → Int32) × (Nat → Int32))) {U : Nat} (hU : U < 256) (hU1 : 0 < U) (tk sp : Nat → Int32) (hI : ∀ V, V < U → tk V = nI (kv_S (kv_tk kc qm r) V 8) ∧ sp V = nI (kv_O (fun j => kv_cv fo qp qm qv hs r (nI j)) V 8)) : ∀ (k f m : Nat), m + k = 8 → k < f → (∀ j, j < m → U.testBit j = false) →
    pf_X3_spreads_11 co ho ve rp rm ro (nI r) k2 f (nI U) (nI m) tk sp = k2 (nI (U + 1)) (upd tk U (nI (kv_S (kv_tk kc qm r) U 8))) (upd sp U (nI (kv_O (fun j => kv_cv fo qp qm qv hs r (nI j)) U 8))) := by
  intro k
  induction k with
  | zero =>
    intro f m hi hf hb
    have := kv_bits0 U hU (fun j hj => hb j (by omega))
    omega
  | succ k ih =>
    intro f m hi hf hb
    obtain ⟨f, rfl⟩ : ∃ z, f = z + 1 := ⟨f - 1, by omega⟩
    have hm : m < 8 := by omega
    rw [pf_X3_spreads_11.eq_2]
    cases hbit : U.testBit m with
    | false =>
      have step : ∀ k11, pf_X3_spreads_11b co ho ve rp rm ro (nI r) k2 k11 (nI U) (nI m) tk sp = k11 (nI U) (nI (m + 1)) tk sp := by
        intro k11
        unfold pf_X3_spreads_11b
        rw [kv_shr hU hm, hbit, if_pos (if_neg (by decide)), nI_1]
      rw [step]
      refine ih f (m + 1) (by omega) (by omega) (fun j hj => ?_)
      by_cases e : j = m
      · rw [e]; exact hbit
      · exact hb j (by omega)
    | true =>
      obtain ⟨a1, a2, a3, a4, a5, a6, a7⟩ := id hs0
      have hle := (kv_bitsub U hU m hm hbit).1
      have hp : 0 < 2 ^ m := Nat.two_pow_pos m
      obtain ⟨g1, g2⟩ := hI (U - 2 ^ m) (by omega)
      obtain ⟨b1, b2, b3, b4⟩ := a6 m hm
      obtain ⟨d1, d2⟩ := kv_tk_n b3 b4
      have h59 := kv_sp_59 hs0 k2 hU hm hbit tk sp (kv_tk kc qm r m) g1 g2 rfl
      unfold pf_X3_spreads_11b
      rw [kv_shr hU hm, hbit, if_neg (by rw [if_pos rfl]; decide), kv_gN a1 (by omega)]
      simp only [kv_T, nI_clamp (show r < 2 ^ 31 by omega), nI_clamp (show m < 2 ^ 31 by omega), a4, kv_g8 (kv_ivN hm), b2]
      unfold kv_tk at h59
      by_cases e : qm r = 1
      · rw [if_pos e] at h59 ⊢
        by_cases e2 : 4 ≤ (kc m).toInt.toNat
        · rw [if_pos (by rw [d1]; exact nI_le (a := 4) e2 (by omega))]
          rw [Nat.max_eq_right e2, ← d1] at h59
          exact h59
        · rw [if_neg (by rw [d1]; exact nI_ge (b := 4) (by omega) (by decide))]
          rw [Nat.max_eq_left (by omega)] at h59
          exact h59
      · rw [if_neg e] at h59 ⊢
        exact h59
end KVP10
