section KVP11
theorem q_sp2 {kc : Nat → Int32} {fo : Nat → Nat → Int32} {qp qm qv hs : Nat → Int32} {r : Nat} {co ho ve rp rm ro : Nat → Int32} (hs0 : kv_same kc fo qp qm qv hs r co ho ve rp rm ro) : ∀ (k f U : Nat) (tk sp : Nat → Int32), U + k = 256 → k < f → 0 < U → (∀ V, V < U → tk V = nI (kv_S (kv_tk kc qm r) V 8) ∧ sp V = nI (kv_O (fun j => kv_cv fo qp qm qv hs r (nI j)) V 8)) → ∃ tk' sp', pf_X3_spreads_2 co ho ve rp rm ro (nI r) f (nI U) tk sp = some (tk', sp') ∧ ∀ V, V < 256 → tk' V = nI (kv_S (kv_tk kc qm r) V 8) ∧ sp' V = nI (kv_O (fun j => kv_cv fo qp qm qv hs r (nI j)) V 8) := by
  intro k
  induction k with
  | zero =>
    intro f U tk sp hi hf h0 hI
    obtain ⟨f, rfl⟩ : ∃ z, f = z + 1 := ⟨f - 1, by omega⟩
    refine ⟨tk, sp, ?_, fun V hV => hI V (by omega)⟩
    rw [pf_X3_spreads_2.eq_2]
    unfold pf_X3_spreads_2b
    rw [if_pos ((kv_ge256 (by omega)).mpr (by omega))]
  | succ k ih =>
    intro f U tk sp hi hf h0 hI
    obtain ⟨f, rfl⟩ : ∃ z, f = z + 1 := ⟨f - 1, by omega⟩
    have step : ∀ k2, pf_X3_spreads_2b co ho ve rp rm ro (nI r) k2 (nI U) tk sp = k2 (nI (U + 1)) (upd tk U (nI (kv_S (kv_tk kc qm r) U 8))) (upd sp U (nI (kv_O (fun j => kv_cv fo qp qm qv hs r (nI j)) U 8))) := by
      intro k2
      unfold pf_X3_spreads_2b
      rw [if_neg (fun d => by have := (kv_ge256 (by omega)).mp d; omega), ← nI_0]
      exact q_sp11 hs0 k2 (by omega) h0 tk sp hI 8 kv_F 0 (by omega) (kv_Fgt (by omega)) (fun j hj => absurd hj (Nat.not_lt_zero j))
    rw [pf_X3_spreads_2.eq_2, step]
    refine ih f (U + 1) _ _ (by omega) (by omega) (by omega) (fun V hV => ?_)
    unfold upd
    by_cases e : V = U
    · rw [if_pos e, if_pos e, e]; exact ⟨rfl, rfl⟩
    · rw [if_neg e, if_neg e]; exact hI V (by omega)
theorem kv_S0 (t : Nat → Nat) : kv_S t 0 8 = 0 := by simp [kv_S]
theorem kv_O0 (t : Nat → Nat) : kv_O t 0 8 = 0 := by simp [kv_O]
theorem q_spreads {kc : Nat → Int32} {fo : Nat → Nat → Int32} {qp qm qv hs : Nat → Int32} {r : Nat} {co ho ve rp rm ro : Nat → Int32} (hs0 : kv_same kc fo qp qm qv hs r co ho ve rp rm ro) (tk sp : Nat → Int32) (h1 : tk 0 = 0) (h2 : sp 0 = 0) : ∃ tk' sp', pf_X3_spreads co ho ve rp rm ro (nI r) tk sp = some (tk', sp') ∧ ∀ V, V < 256 → tk' V = nI (kv_S (kv_tk kc qm r) V 8) ∧ sp' V = nI (kv_O (fun j => kv_cv fo qp qm qv hs r (nI j)) V 8) :=
  q_sp2 hs0 255 kv_F 1 tk sp (by omega) (kv_Fgt (by omega)) (by omega) (fun V hV => by
    obtain rfl : V = 0 := by omega
    rw [kv_S0, kv_O0]; exact ⟨h1, h2⟩)
theorem kv_ge65536 {i : Nat} (h : i ≤ 65536) : (65536 : Int32) ≤ nI i ↔ 65536 ≤ i := nI_leI (a := 65536) (by decide) (by omega)
section LEAST
variable (co ho ve pr : Nat → Int32) (rg : Int32) (rp rm rc ro : Nat → Int32) (p0 : Int32)
theorem kv_66_b (k32) (k66) (r i : Nat) (cn tn tk sp : Nat → Int32) (ba : Int32) (hi : i < 256) : pf_X3_least_66b co ho ve pr rg rp rm rc ro p0 k32 k66 (nI r) (nI i) cn tn tk sp ba = k66 (nI r) (nI (i + 1)) cn (upd tn i 0) tk sp ba := by
  unfold pf_X3_least_66b
  rw [if_neg (fun d => by have := (kv_ge256 (by omega)).mp d; omega), kv_gN hi (by omega)]
  simp only [kv_T, nI_clamp (show i < 2 ^ 31 by omega), nI_1]
  rfl
theorem q_66 (k32) (r : Nat) (cn tk sp : Nat → Int32) (ba : Int32) : ∀ (k f i : Nat) (tn : Nat → Int32), i + k = 256 → k < f → (∀ S, S < i → tn S = 0) → ∃ tn', pf_X3_least_66 co ho ve pr rg rp rm rc ro p0 k32 f (nI r) (nI i) cn tn tk sp ba = pf_X3_least_88 co ho ve pr rg rp rm rc ro p0 k32 kv_F (nI r) 0 cn tn' tk sp ba ∧ ∀ S, S < 256 → tn' S = 0 := by
  intro k
  induction k with
  | zero =>
    intro f i tn hi hf hI
    obtain ⟨f, rfl⟩ : ∃ z, f = z + 1 := ⟨f - 1, by omega⟩
    refine ⟨tn, ?_, fun S hS => hI S (by omega)⟩
    rw [pf_X3_least_66.eq_2]
    unfold pf_X3_least_66b
    rw [if_pos ((kv_ge256 (by omega)).mpr (by omega))]
  | succ k ih =>
    intro f i tn hi hf hI
    obtain ⟨f, rfl⟩ : ∃ z, f = z + 1 := ⟨f - 1, by omega⟩
    rw [pf_X3_least_66.eq_2, kv_66_b co ho ve pr rg rp rm rc ro p0 k32 _ r i cn tn tk sp ba (by omega)]
    refine ih f (i + 1) _ (by omega) (by omega) (fun S hS => ?_)
    unfold upd
    by_cases e : S = i
    · rw [if_pos e]
    · rw [if_neg e]; exact hI S (by omega)
theorem kv_z256 {α : Type} (x : Option α) : kv_Z 256 x = x := if_neg (by decide)
theorem kv_88_b (k32) (k88 : Int32 → Int32 → (Nat → Int32) → (Nat → Int32) → (Nat → Int32) → (Nat → Int32) → Int32 → Option (Int32 × (Nat → Int32) × (Nat → Int32) × (Nat → Int32) × (Nat → Int32) × Int32)) (r i : Nat) (cn tn tk sp : Nat → Int32) (ba : Int32) (T C : Nat → Nat) (cnt : Nat) (hr : r < 12) (hi : i < 65536) (hT : ∀ U, U < 256 → tk U = nI (T U) ∧ T U ≤ 1000) (hC : ∀ U, U < 256 → sp U = nI (C U) ∧ C U < 256) (hc : rc r = nI cnt) (hcb : cnt ≤ 500) : pf_X3_least_88b co ho ve pr rg rp rm rc ro p0 k32 k88 (nI r) (nI i) cn tn tk sp ba = k88 (nI r) (nI (i + 1)) cn (if cn (i / 256) = 0 then tn else if T (i % 256) ≤ cnt then upd tn (i / 256 ||| C (i % 256)) 1 else tn) tk sp ba := by
  have d1 : nI i / 256 = nI (i / 256) := pk_div (d := 256) (by omega) (by omega) (by omega)
  have d2 : nI i - nI (i / 256) * 256 = nI (i % 256) := by rw [← d1]; exact pk_rem (d := 256) (by omega) (by omega) (by omega)
  have q1 : i / 256 < 256 := by omega
  have q2 : i % 256 < 256 := Nat.mod_lt _ (by omega)
  obtain ⟨t1, t2⟩ := hT _ q2
  obtain ⟨c1, c2⟩ := hC _ q2
  have hor := kv_orb q1 c2
  unfold pf_X3_least_88b
  rw [if_neg (fun d => by have := (nI_leI (a := 65536) (by omega) (by omega)).mp d; omega)]
  simp only [kv_T, kv_z256, d1, d2, kv_gN q1 (show i / 256 < 2 ^ 31 by omega), kv_gN q2 (show i % 256 < 2 ^ 31 by omega), kv_gN hr (show r < 2 ^ 31 by omega), nI_clamp (show i / 256 < 2 ^ 31 by omega), nI_clamp (show i % 256 < 2 ^ 31 by omega), nI_clamp (show r < 2 ^ 31 by omega), t1, c1, hc, nI_1, kv_or32 (show i / 256 < 2 ^ 31 by omega) (show C (i % 256) < 2 ^ 31 by omega), kv_gN hor (show i / 256 ||| C (i % 256) < 2 ^ 31 by omega), nI_clamp (show i / 256 ||| C (i % 256) < 2 ^ 31 by omega)]
  by_cases e1 : cn (i / 256) = 0
  · rw [if_pos e1, if_pos e1]
  · rw [if_neg e1, if_neg e1]
    by_cases e2 : T (i % 256) ≤ cnt
    · rw [if_neg (fun q => by have := (nI_ltI (by omega) (by omega)).mp q; omega), if_pos e2]
      rfl
    · rw [if_pos ((nI_ltI (by omega) (by omega)).mpr (by omega)), if_neg e2]
theorem q_88 (k32) (r : Nat) (cn tk sp : Nat → Int32) (ba : Int32) (T C : Nat → Nat) (cnt : Nat) (hr : r < 12) (hT : ∀ U, U < 256 → tk U = nI (T U) ∧ T U ≤ 1000) (hC : ∀ U, U < 256 → sp U = nI (C U) ∧ C U < 256) (hc : rc r = nI cnt) (hcb : cnt ≤ 500) : ∀ (k f i : Nat) (tn : Nat → Int32), i + k = 65536 → k < f → (∀ S, S < 256 → (tn S = 0 ∨ tn S = 1) ∧ (tn S = 1 ↔ ∃ q, q < i ∧ ¬ cn (q / 256) = 0 ∧ T (q % 256) ≤ cnt ∧ q / 256 ||| C (q % 256) = S)) → ∃ tn', pf_X3_least_88 co ho ve pr rg rp rm rc ro p0 k32 f (nI r) (nI i) cn tn tk sp ba = pf_X3_least_156 co ho ve pr rg rp rm rc ro p0 k32 kv_F (nI r) 0 cn tn' tk sp ba ∧ ∀ S, S < 256 → (tn' S = 0 ∨ tn' S = 1) ∧ (tn' S = 1 ↔ ∃ q, q < 65536 ∧ ¬ cn (q / 256) = 0 ∧ T (q % 256) ≤ cnt ∧ q / 256 ||| C (q % 256) = S) := by
  intro k
  induction k with
  | zero =>
    intro f i tn hi hf hI
    obtain ⟨f, rfl⟩ : ∃ z, f = z + 1 := ⟨f - 1, by omega⟩
    refine ⟨tn, ?_, ?_⟩
    · rw [pf_X3_least_88.eq_2]
      unfold pf_X3_least_88b
      rw [if_pos ((kv_ge65536 (by omega)).mpr (by omega))]
    · rw [show i = 65536 by omega] at hI
      exact hI
  | succ k ih =>
    intro f i tn hi hf hI
    obtain ⟨f, rfl⟩ : ∃ z, f = z + 1 := ⟨f - 1, by omega⟩
    rw [pf_X3_least_88.eq_2, kv_88_b co ho ve pr rg rp rm rc ro p0 k32 _ r i cn tn tk sp ba T C cnt hr (by omega) hT hC hc hcb]
    refine ih f (i + 1) _ (by omega) (by omega) (fun S hS => ?_)
    obtain ⟨g1, g2⟩ := hI S hS
    by_cases e1 : cn (i / 256) = 0
    · rw [if_pos e1]
      refine ⟨g1, g2.trans ⟨fun ⟨q, q1, q2⟩ => ⟨q, by omega, q2⟩, fun ⟨q, q1, q2, q3⟩ => ⟨q, ?_, q2, q3⟩⟩⟩
      have : q ≠ i := fun c => q2 (by rw [c]; exact e1)
      omega
    · rw [if_neg e1]
      by_cases e2 : T (i % 256) ≤ cnt
      · rw [if_pos e2]
        unfold upd
        by_cases e3 : S = i / 256 ||| C (i % 256)
        · rw [if_pos e3]
          exact ⟨Or.inr rfl, ⟨fun _ => ⟨i, by omega, e1, e2, e3.symm⟩, fun _ => rfl⟩⟩
        · rw [if_neg e3]
          refine ⟨g1, g2.trans ⟨fun ⟨q, q1, q2⟩ => ⟨q, by omega, q2⟩, fun ⟨q, q1, q2, q3, q4⟩ => ⟨q, ?_, q2, q3, q4⟩⟩⟩
          have : q ≠ i := fun c => e3 (by rw [← q4, c])
          omega
      · rw [if_neg e2]
        refine ⟨g1, g2.trans ⟨fun ⟨q, q1, q2⟩ => ⟨q, by omega, q2⟩, fun ⟨q, q1, q2, q3, q4⟩ => ⟨q, ?_, q2, q3, q4⟩⟩⟩
        have : q ≠ i := fun c => e2 (by rw [← c]; exact q3)
        omega
theorem kv_156_b (k32) (k156 : Int32 → Int32 → (Nat → Int32) → (Nat → Int32) → (Nat → Int32) → (Nat → Int32) → Int32 → Option (Int32 × (Nat → Int32) × (Nat → Int32) × (Nat → Int32) × (Nat → Int32) × Int32)) (r i : Nat) (cn tn tk sp : Nat → Int32) (ba : Int32) (hi : i < 256) (ht : tn i = 0 ∨ tn i = 1) : pf_X3_least_156b co ho ve pr rg rp rm rc ro p0 k32 k156 (nI r) (nI i) cn tn tk sp ba = k156 (nI r) (nI (i + 1)) (upd cn i (tn i)) tn tk sp ba := by
  unfold pf_X3_least_156b
  rw [if_neg (fun d => by have := (kv_ge256 (by omega)).mp d; omega), kv_gN hi (by omega)]
  simp only [kv_T, nI_clamp (show i < 2 ^ 31 by omega), nI_1, kv_gN hi (show i < 2 ^ 31 by omega)]
  rcases ht with h | h
  · rw [h]; rfl
  · rw [h]; rfl
theorem q_156 (k32) (r : Nat) (tn tk sp : Nat → Int32) (ba : Int32) (ht : ∀ S, S < 256 → tn S = 0 ∨ tn S = 1) : ∀ (k f i : Nat) (cn : Nat → Int32), i + k = 256 → k < f → (∀ S, S < i → cn S = tn S) → ∃ cn', pf_X3_least_156 co ho ve pr rg rp rm rc ro p0 k32 f (nI r) (nI i) cn tn tk sp ba = k32 (nI (r + 1)) cn' tn tk sp ba ∧ ∀ S, S < 256 → cn' S = tn S := by
  intro k
  induction k with
  | zero =>
    intro f i cn hi hf hI
    obtain ⟨f, rfl⟩ : ∃ z, f = z + 1 := ⟨f - 1, by omega⟩
    refine ⟨cn, ?_, fun S hS => hI S (by omega)⟩
    rw [pf_X3_least_156.eq_2]
    unfold pf_X3_least_156b
    rw [if_pos ((kv_ge256 (by omega)).mpr (by omega)), nI_1]
  | succ k ih =>
    intro f i cn hi hf hI
    obtain ⟨f, rfl⟩ : ∃ z, f = z + 1 := ⟨f - 1, by omega⟩
    rw [pf_X3_least_156.eq_2, kv_156_b co ho ve pr rg rp rm rc ro p0 k32 _ r i cn tn tk sp ba (by omega) (ht i (by omega))]
    refine ih f (i + 1) _ (by omega) (by omega) (fun S hS => ?_)
    unfold upd
    by_cases e : S = i
    · rw [if_pos e, e]
    · rw [if_neg e]; exact hI S (by omega)
end LEAST
end KVP11
