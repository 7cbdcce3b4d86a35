section KVP20
theorem kv_step_comm {t c t' c' : Nat → Nat} {x y : Nat} {R : Nat → Prop} (hc : ∀ j, j < 8 → c j < 256) (S : Nat) (h : kv_step t c x (kv_step t' c' y R) S) : kv_step t' c' y (kv_step t c x R) S := by
  obtain ⟨a, U, a1, a2, ⟨b, V, b1, b2, b3, b4, b5⟩, a4, a5⟩ := h
  refine ⟨b ||| kv_O c U 8, V, kv_orb b1 (kv_O_lt 8 hc), b2, ⟨b, U, b1, a2, b3, a4, rfl⟩, b4, ?_⟩
  rw [← a5, ← b5, Nat.or_assoc, Nat.or_assoc, Nat.or_comm (kv_O c U 8)]
theorem kv_step_iff {t c : Nat → Nat} {x : Nat} {R R' : Nat → Prop} (h : ∀ S, S < 256 → (R S ↔ R' S)) (S : Nat) : kv_step t c x R S ↔ kv_step t c x R' S := by
  constructor
  · rintro ⟨a, U, a1, a2, a3, a4, a5⟩
    exact ⟨a, U, a1, a2, (h a a1).mp a3, a4, a5⟩
  · rintro ⟨a, U, a1, a2, a3, a4, a5⟩
    exact ⟨a, U, a1, a2, (h a a1).mpr a3, a4, a5⟩
theorem kv_reach_iff {use : Nat → Bool} {t c : Nat → Nat → Nat} {cnt : Nat → Nat} : ∀ (k i : Nat) (R R' : Nat → Prop), (∀ S, S < 256 → (R S ↔ R' S)) → ∀ S, S < 256 → (kv_reach use t c cnt i k R S ↔ kv_reach use t c cnt i k R' S) := by
  intro k
  induction k with
  | zero => intro i R R' h S hS; exact h S hS
  | succ k ih =>
    intro i R R' h S hS
    rw [kv_reach_S, kv_reach_S]
    refine ih (i + 1) _ _ (fun V hV => ?_) S hS
    cases use i with
    | false => exact h V hV
    | true => exact kv_step_iff h V
theorem kv_reach_step {use : Nat → Bool} {t c : Nat → Nat → Nat} {cnt : Nat → Nat} {t0 c0 : Nat → Nat} {x : Nat} (hc : ∀ i j, j < 8 → c i j < 256) (hc0 : ∀ j, j < 8 → c0 j < 256) : ∀ (k i : Nat) (R : Nat → Prop) (S : Nat), S < 256 → (kv_reach use t c cnt i k (kv_step t0 c0 x R) S ↔ kv_step t0 c0 x (kv_reach use t c cnt i k R) S) := by
  intro k
  induction k with
  | zero => intro i R S hS; exact Iff.rfl
  | succ k ih =>
    intro i R S hS
    rw [kv_reach_S, kv_reach_S, ← ih (i + 1) _ S hS]
    refine kv_reach_iff k (i + 1) _ _ (fun V hV => ?_) S hS
    cases use i with
    | false => exact Iff.rfl
    | true => exact ⟨kv_step_comm (hc i) V, kv_step_comm hc0 V⟩
theorem kv_reach_out {use use' : Nat → Bool} {t c : Nat → Nat → Nat} {cnt cnt' : Nat → Nat} {r N : Nat} (hc : ∀ i j, j < 8 → c i j < 256) (hu : use r = false) (h : ∀ j, j < N → j ≠ r → use' j = use j ∧ cnt' j = cnt j) : ∀ (k i : Nat) (R : Nat → Prop) (S : Nat), i ≤ r → r < i + k → i + k ≤ N → S < 256 → (kv_reach use' t c cnt' i k R S ↔ (match use' r with | true => kv_step (t r) (c r) (cnt' r) (kv_reach use t c cnt i k R) | false => kv_reach use t c cnt i k R) S) := by
  intro k
  induction k with
  | zero => intro i R S h1 h2 hN hS; omega
  | succ k ih =>
    intro i R S h1 h2 hN hS
    by_cases e : i = r
    · subst e
      rw [kv_reach_S, kv_reach_S use, hu]
      have hrest : ∀ Q, kv_reach use' t c cnt' (i + 1) k Q = kv_reach use t c cnt (i + 1) k Q := fun Q => kv_reach_c k (i + 1) Q (fun j a b => h j (by omega) (by omega))
      rw [hrest]
      cases use' i with
      | false => exact Iff.rfl
      | true => exact kv_reach_step hc (hc i) k (i + 1) R S hS
    · obtain ⟨g1, g2⟩ := h i (by omega) e
      rw [kv_reach_S, kv_reach_S use, g1, g2]
      exact ih (i + 1) _ S (by omega) (by omega) (by omega) hS
theorem kv_S_pos {t : Nat → Nat} {U : Nat} (ht : ∀ j, j < 8 → 1 ≤ t j) (hU : U < 256) (h : kv_S t U 8 = 0) : U = 0 := by
  refine kv_bits0 U hU (fun j hj => ?_)
  have key : ∀ m, m ≤ 8 → ∀ j, j < m → U.testBit j = true → 1 ≤ kv_S t U m := by
    intro m
    induction m with
    | zero => intro _ j hj; omega
    | succ m ih =>
      intro hm j hj hb
      show 1 ≤ kv_S t U m + (if U.testBit m = true then t m else 0)
      by_cases e : j = m
      · have := ht m (by omega)
        rw [← e, if_pos hb, e]
        omega
      · have := ih (by omega) j (by omega) hb
        omega
  cases b : U.testBit j with
  | false => rfl
  | true =>
    have := key 8 (Nat.le_refl 8) j hj b
    omega
theorem kv_step_0 {t c : Nat → Nat} {R : Nat → Prop} (ht : ∀ j, j < 8 → 1 ≤ t j) (S : Nat) (hS : S < 256) : kv_step t c 0 R S ↔ R S := by
  constructor
  · rintro ⟨a, U, a1, a2, a3, a4, a5⟩
    have e := kv_S_pos ht a2 (by omega)
    rw [e, kv_O0, Nat.or_zero] at a5
    rw [← a5]
    exact a3
  · intro h
    exact ⟨S, 0, hS, by omega, h, by rw [kv_S0]; exact Nat.le_refl 0, by rw [kv_O0]; exact Nat.or_zero S⟩
theorem kv_less_t {W : Nat → Nat} {a b : Nat} (h : kv_less W a b = true) : W a ≤ W b := by
  unfold kv_less at h
  simp only [Bool.or_eq_true, Bool.and_eq_true, decide_eq_true_eq] at h
  omega
theorem kv_less_f {W : Nat → Nat} {a b : Nat} (h : kv_less W a b = false) : W b ≤ W a := by
  unfold kv_less at h
  simp only [Bool.or_eq_false_iff, decide_eq_false_iff_not] at h
  omega
theorem kv_pick_min {W d : Nat → Nat} {ok : Nat → Bool} : ∀ (k i L : Nat), W (kv_pick W d ok i k L) ≤ W L ∧ (∀ S, i ≤ S → S < i + k → ok S = true → W (kv_pick W d ok i k L) ≤ W (d S)) ∧ (kv_pick W d ok i k L = L ∨ ∃ S, i ≤ S ∧ S < i + k ∧ ok S = true ∧ kv_pick W d ok i k L = d S) := by
  intro k
  induction k with
  | zero => intro i L; exact ⟨Nat.le_refl _, fun S a b => by omega, Or.inl rfl⟩
  | succ k ih =>
    intro i L
    rw [kv_pick_S]
    cases hb : (ok i && kv_less W (d i) L) with
    | true =>
      rw [if_pos rfl]
      rw [Bool.and_eq_true] at hb
      obtain ⟨p1, p2, p3⟩ := ih (i + 1) (d i)
      refine ⟨Nat.le_trans p1 (kv_less_t hb.2), fun S a b c => ?_, ?_⟩
      · by_cases e : S = i
        · rw [e]; exact p1
        · exact p2 S (by omega) (by omega) c
      · rcases p3 with p3 | ⟨S, q1, q2, q3, q4⟩
        · exact Or.inr ⟨i, Nat.le_refl i, by omega, hb.1, p3⟩
        · exact Or.inr ⟨S, by omega, by omega, q3, q4⟩
    | false =>
      rw [if_neg (by decide)]
      obtain ⟨p1, p2, p3⟩ := ih (i + 1) L
      refine ⟨p1, fun S a b c => ?_, ?_⟩
      · by_cases e : S = i
        · rw [e] at c ⊢
          rw [c, Bool.true_and] at hb
          exact Nat.le_trans p1 (kv_less_f hb)
        · exact p2 S (by omega) (by omega) c
      · rcases p3 with p3 | ⟨S, q1, q2, q3, q4⟩
        · exact Or.inl p3
        · exact Or.inr ⟨S, by omega, by omega, q3, q4⟩
/-- the least weight over the sets that may be covered -/
theorem kv_pick_w {W d : Nat → Nat} {ok : Nat → Bool} {h : Nat} (hd : d 0 = h) (h0 : ok 0 = true) : (∀ S, S < 256 → ok S = true → W (kv_pick W d ok 0 256 h) ≤ W (d S)) ∧ ∃ S, S < 256 ∧ ok S = true ∧ W (kv_pick W d ok 0 256 h) = W (d S) := by
  obtain ⟨p1, p2, p3⟩ := @kv_pick_min W d ok 256 0 h
  refine ⟨fun S a b => p2 S (by omega) (by omega) b, ?_⟩
  rcases p3 with p3 | ⟨S, q1, q2, q3, q4⟩
  · exact ⟨0, by omega, h0, by rw [p3, hd]⟩
  · exact ⟨S, by omega, q3, by rw [q4]⟩
end KVP20
