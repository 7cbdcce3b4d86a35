section KVP16
theorem kv_and1 : ∀ S, S < 256 → ∀ m, m < 8 → ((S &&& 2 ^ m) = 0 ↔ S.testBit m = false) := by decide +kernel
theorem kv_and2 {S m : Nat} (hS : S < 256) (hm : m < 8) : (nI S &&& nI (2 ^ m)) = 0 ↔ S.testBit m = false := by
  have hp := kv_p2 hm
  have hl : S &&& 2 ^ m < 256 := Nat.lt_of_le_of_lt Nat.and_le_left hS
  have e : nI S &&& nI (2 ^ m) = nI (S &&& 2 ^ m) := by
    apply Int32.toBitVec_inj.mp
    apply BitVec.eq_of_toNat_eq
    rw [Int32.toBitVec_and, BitVec.toNat_and, pk_tn (by omega), pk_tn (by omega), pk_tn (by omega)]
  have h0 : nI (S &&& 2 ^ m) = 0 ↔ (S &&& 2 ^ m) = 0 := nI_eq (b := 0) (by omega) (by omega)
  rw [e, h0]
  exact kv_and1 S hS m hm
theorem q_cos (mt mv : Nat → Int32) (S cnt : Nat) (t c : Nat → Nat) (hS : S < 256) (hc : cnt ≤ 500) (hm : ∀ j, j < 8 → mt j = nI (t j) ∧ t j ≤ 64 ∧ mv j = nI (c j) ∧ c j < 256) : ∀ (k f m : Nat), m + k = 8 → k < f → pf_X0_coverOfSet_8 mt mv (nI S) (nI cnt) f (nI (kv_S t S m)) (nI (kv_O c S m)) (nI m) = some (if kv_S t S 8 ≤ cnt then nI (kv_O c S 8) else -1) := by
  have hb : ∀ m, m ≤ 8 → kv_S t S m ≤ 64 * m := by
    intro m
    induction m with
    | zero => intro _; exact Nat.le_refl 0
    | succ m ih =>
      intro h
      have h1 := ih (by omega)
      have h2 := (hm m (by omega)).2.1
      unfold kv_S
      split <;> omega
  intro k
  induction k with
  | zero =>
    intro f m hi hf
    obtain ⟨f, rfl⟩ : ∃ z, f = z + 1 := ⟨f - 1, by omega⟩
    have e : m = 8 := by omega
    have hb8 := hb 8 (Nat.le_refl 8)
    rw [pf_X0_coverOfSet_8.eq_2, e]
    unfold pf_X0_coverOfSet_8b
    rw [if_pos ((kv_ge8 (i := 8) (by omega)).mpr (by omega))]
    by_cases d : kv_S t S 8 ≤ cnt
    · rw [if_neg (fun q => by have := (nI_ltI (by omega) (by omega)).mp q; omega), if_pos d]
    · rw [if_pos ((nI_ltI (by omega) (by omega)).mpr (by omega)), if_neg d]
  | succ k ih =>
    intro f m hi hf
    obtain ⟨f, rfl⟩ : ∃ z, f = z + 1 := ⟨f - 1, by omega⟩
    have hm8 : m < 8 := by omega
    obtain ⟨m1, m2, m3, m4⟩ := hm m hm8
    have hO : kv_O c S m < 256 := kv_O_lt m (fun j hj => (hm j (by omega)).2.2.2)
    have hS1 : kv_S t S (m + 1) = kv_S t S m + (if S.testBit m = true then t m else 0) := rfl
    have hO1 : kv_O c S (m + 1) = kv_O c S m ||| (if S.testBit m = true then c m else 0) := rfl
    have h := ih f (m + 1) (by omega) (by omega)
    rw [pf_X0_coverOfSet_8.eq_2]
    unfold pf_X0_coverOfSet_8b
    rw [if_neg (fun d => by have := (kv_ge8 (by omega)).mp d; omega), kv_bit hm8]
    simp only [kv_T, kv_g8 (kv_ivN hm8), nI_clamp (show m < 2 ^ 31 by omega), m1, m3, nI_add, nI_1, kv_or32 (show kv_O c S m < 2 ^ 31 by omega) (show c m < 2 ^ 31 by omega)]
    cases b : S.testBit m with
    | false =>
      rw [if_pos ((kv_and2 hS hm8).mpr b)]
      rw [hS1, hO1, b, if_neg (by decide), if_neg (by decide), Nat.or_zero, Nat.add_zero] at h
      exact h
    | true =>
      rw [if_neg (fun q => by have := (kv_and2 hS hm8).mp q; rw [b] at this; exact absurd this (by decide))]
      rw [hS1, hO1, b, if_pos rfl, if_pos rfl] at h
      exact h
theorem q_ata (sc : Nat → Int32) (a cnt : Nat) (T C : Nat → Nat) (ha : a < 256) (hC : ∀ U, U < 256 → C U < 256) (hsc : ∀ U, U < 256 → sc U = if T U ≤ cnt then nI (C U) else -1) (u : Nat → Nat) : ∀ (k f i : Nat) (tn : Nat → Int32) (w : Nat → Nat), i + k = 256 → k < f → kv_is tn w → kv_two w → (∀ S, S < 256 → (w S = 0 ↔ (u S = 0 ∨ ∃ U, U < i ∧ T U ≤ cnt ∧ a ||| C U = S))) → ∃ tn' w', pf_X0_addToAll_2 sc (nI a) f (nI i) tn = some tn' ∧ kv_is tn' w' ∧ kv_two w' ∧ ∀ S, S < 256 → (w' S = 0 ↔ (u S = 0 ∨ ∃ U, U < 256 ∧ T U ≤ cnt ∧ a ||| C U = S)) := by
  intro k
  induction k with
  | zero =>
    intro f i tn w hi hf h1 h2 h3
    obtain ⟨f, rfl⟩ : ∃ z, f = z + 1 := ⟨f - 1, by omega⟩
    refine ⟨tn, w, ?_, h1, h2, ?_⟩
    · rw [pf_X0_addToAll_2.eq_2]
      unfold pf_X0_addToAll_2b
      rw [if_pos ((kv_ge256 (by omega)).mpr (by omega))]
    · rw [show i = 256 by omega] at h3
      exact h3
  | succ k ih =>
    intro f i tn w hi hf h1 h2 h3
    obtain ⟨f, rfl⟩ : ∃ z, f = z + 1 := ⟨f - 1, by omega⟩
    have hi2 : i < 256 := by omega
    have hci := hC i hi2
    have hor := kv_orb ha hci
    have hne : ¬ nI (C i) = -1 := fun c => by
      have := congrArg Int32.toInt c
      rw [nI_toInt (by omega), kv_in1] at this
      omega
    have step : ∀ k2 : Int32 → (Nat → Int32) → Option (Nat → Int32), pf_X0_addToAll_2b sc (nI a) k2 (nI i) tn = if T i ≤ cnt then k2 (nI (i + 1)) (upd tn (a ||| C i) 0) else k2 (nI (i + 1)) tn := by
      intro k2
      unfold pf_X0_addToAll_2b
      rw [if_neg (fun d => by have := (kv_ge256 (by omega)).mp d; omega), kv_gN hi2 (by omega)]
      simp only [kv_T, nI_clamp (show i < 2 ^ 31 by omega), nI_1, kv_gN hi2 (show i < 2 ^ 31 by omega), hsc i hi2]
      by_cases c : T i ≤ cnt
      · simp only [if_pos c]
        rw [if_neg hne, kv_orI ha hci, kv_gN hor (by omega), nI_clamp (by omega)]
      · simp only [if_neg c]
        rw [if_pos trivial]
    rw [pf_X0_addToAll_2.eq_2, step]
    by_cases c : T i ≤ cnt
    · rw [if_pos c]
      refine ih f (i + 1) _ (fun S => if S = a ||| C i then 0 else w S) (by omega) (by omega) (fun S hS => ?_) (fun S hS => ?_) (fun S hS => ?_)
      · unfold upd
        by_cases e : S = a ||| C i
        · simp only [if_pos e]; exact ⟨rfl, by omega⟩
        · simp only [if_neg e]; exact h1 S hS
      · by_cases e : S = a ||| C i
        · simp only [if_pos e]; exact Or.inl trivial
        · simp only [if_neg e]; exact h2 S hS
      · by_cases e : S = a ||| C i
        · simp only [if_pos e]
          exact ⟨fun _ => Or.inr ⟨i, by omega, c, e.symm⟩, fun _ => trivial⟩
        · simp only [if_neg e]
          rw [h3 S hS]
          constructor
          · rintro (q | ⟨U, q1, q2, q3⟩)
            · exact Or.inl q
            · exact Or.inr ⟨U, by omega, q2, q3⟩
          · rintro (q | ⟨U, q1, q2, q3⟩)
            · exact Or.inl q
            · exact Or.inr ⟨U, by have : U ≠ i := fun d => e (by rw [← q3, d]); omega, q2, q3⟩
    · rw [if_neg c]
      refine ih f (i + 1) tn w (by omega) (by omega) h1 h2 (fun S hS => ?_)
      rw [h3 S hS]
      constructor
      · rintro (q | ⟨U, q1, q2, q3⟩)
        · exact Or.inl q
        · exact Or.inr ⟨U, by omega, q2, q3⟩
      · rintro (q | ⟨U, q1, q2, q3⟩)
        · exact Or.inl q
        · exact Or.inr ⟨U, by have : U ≠ i := fun d => c (by rw [← d]; exact q2); omega, q2, q3⟩
end KVP16
