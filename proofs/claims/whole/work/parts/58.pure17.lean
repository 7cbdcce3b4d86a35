section KVP17
theorem kv_T_s {α β : Type} (x : α) (k : α → β) : kv_T x k = k x := rfl
theorem q_cset (mt mv : Nat → Int32) (S cnt : Nat) (t c : Nat → Nat) (hS : S < 256) (hc : cnt ≤ 500) (hm : ∀ j, j < 8 → mt j = nI (t j) ∧ t j ≤ 64 ∧ mv j = nI (c j) ∧ c j < 256) : pf_X0_coverOfSet mt mv (nI S) (nI cnt) = some (if kv_S t S 8 ≤ cnt then nI (kv_O c S 8) else -1) := q_cos mt mv S cnt t c hS hc hm 8 kv_F 0 (by omega) (kv_Fgt (by omega))
theorem q_los38 (mt mv sc : Nat → Int32) (p0 : Int32) (cnt : Nat) (T C : Nat → Nat) (tk : Nat → Int32) (v : Nat → Nat) (hv : kv_is tk v) (hC : ∀ U, U < 256 → C U < 256) (hsc : ∀ U, U < 256 → sc U = if T U ≤ cnt then nI (C U) else -1) : ∀ (k f i : Nat) (tn : Nat → Int32) (w : Nat → Nat), i + k = 256 → k < f → kv_is tn w → kv_two w → (∀ S, S < 256 → (w S = 0 ↔ ∃ a, a < i ∧ v a = 0 ∧ ∃ U, U < 256 ∧ T U ≤ cnt ∧ a ||| C U = S)) → ∃ tn' w', pf_X0_layOnAllSets_38 mt mv p0 f (nI i) tk tn sc = some (va_cpy tn' tk 0 0 256, tn', sc) ∧ kv_is tn' w' ∧ kv_two w' ∧ ∀ S, S < 256 → (w' S = 0 ↔ ∃ a, a < 256 ∧ v a = 0 ∧ ∃ U, U < 256 ∧ T U ≤ cnt ∧ a ||| C U = S) := by
  intro k
  induction k with
  | zero =>
    intro f i tn w hi hf h1 h2 h3
    obtain ⟨f, rfl⟩ : ∃ z, f = z + 1 := ⟨f - 1, by omega⟩
    refine ⟨tn, w, ?_, h1, h2, ?_⟩
    · rw [pf_X0_layOnAllSets_38.eq_2]
      unfold pf_X0_layOnAllSets_38b
      rw [if_pos ((kv_ge256 (by omega)).mpr (by omega))]
      rfl
    · rw [show i = 256 by omega] at h3
      exact h3
  | succ k ih =>
    intro f i tn w hi hf h1 h2 h3
    obtain ⟨f, rfl⟩ : ∃ z, f = z + 1 := ⟨f - 1, by omega⟩
    have hi2 : i < 256 := by omega
    obtain ⟨v1, v2⟩ := hv i hi2
    have h0 : nI (v i) = 0 ↔ v i = 0 := nI_eq (b := 0) (by omega) (by omega)
    have step : ∀ k2, pf_X0_layOnAllSets_38b mt mv p0 k2 (nI i) tk tn sc = if v i = 0 then kv_q1 (pf_X0_addToAll sc (nI i) tn) (fun u_56 => k2 (nI (i + 1)) tk u_56 sc) else k2 (nI (i + 1)) tk tn sc := by
      intro k2
      unfold pf_X0_layOnAllSets_38b
      rw [if_neg (fun d => by have := (kv_ge256 (by omega)).mp d; omega), kv_gN hi2 (by omega)]
      simp only [kv_T, nI_clamp (show i < 2 ^ 31 by omega), nI_1, v1, h0]
    rw [pf_X0_layOnAllSets_38.eq_2, step]
    by_cases c : v i = 0
    · rw [if_pos c]
      obtain ⟨tn', w', g1, g2, g3, g4⟩ := q_ata sc i cnt T C hi2 hC hsc w 256 kv_F 0 tn w (by omega) (kv_Fgt (by omega)) h1 h2 (fun S hS => ⟨Or.inl, fun q => q.elim id (fun ⟨U, q1, _⟩ => absurd q1 (Nat.not_lt_zero U))⟩)
      rw [nI_0] at g1
      have g5 : pf_X0_addToAll sc (nI i) tn = some tn' := g1
      rw [g5]
      refine ih f (i + 1) tn' w' (by omega) (by omega) g2 g3 (fun S hS => ?_)
      rw [g4 S hS, h3 S hS]
      constructor
      · rintro (⟨a, q1, q2⟩ | ⟨U, q1, q2, q3⟩)
        · exact ⟨a, by omega, q2⟩
        · exact ⟨i, by omega, c, U, q1, q2, q3⟩
      · rintro ⟨a, q1, q2, U, q3, q4, q5⟩
        by_cases e : a = i
        · exact Or.inr ⟨U, q3, q4, by rw [← e]; exact q5⟩
        · exact Or.inl ⟨a, by omega, q2, U, q3, q4, q5⟩
    · rw [if_neg c]
      refine ih f (i + 1) tn w (by omega) (by omega) h1 h2 (fun S hS => ?_)
      rw [h3 S hS]
      constructor
      · rintro ⟨a, q1, q2⟩
        exact ⟨a, by omega, q2⟩
      · rintro ⟨a, q1, q2, q3⟩
        exact ⟨a, by have : a ≠ i := fun e => c (by rw [← e]; exact q2); omega, q2, q3⟩
theorem q_los2 (mt mv : Nat → Int32) (cnt : Nat) (t c : Nat → Nat) (hc : cnt ≤ 500) (hm : ∀ j, j < 8 → mt j = nI (t j) ∧ t j ≤ 64 ∧ mv j = nI (c j) ∧ c j < 256) (tk tn : Nat → Int32) : ∀ (k f i : Nat) (sc : Nat → Int32), i + k = 256 → k < f → (∀ S, S < i → sc S = if kv_S t S 8 ≤ cnt then nI (kv_O c S 8) else -1) → ∃ sc', pf_X0_layOnAllSets_2 mt mv (nI cnt) f (nI i) tk tn sc = pf_X0_layOnAllSets_38 mt mv (nI cnt) kv_F 0 tk (kv_fill tn 256 1000000) sc' ∧ ∀ S, S < 256 → sc' S = if kv_S t S 8 ≤ cnt then nI (kv_O c S 8) else -1 := by
  intro k
  induction k with
  | zero =>
    intro f i sc hi hf hI
    obtain ⟨f, rfl⟩ : ∃ z, f = z + 1 := ⟨f - 1, by omega⟩
    refine ⟨sc, ?_, fun S hS => hI S (by omega)⟩
    rw [pf_X0_layOnAllSets_2.eq_2]
    unfold pf_X0_layOnAllSets_2b
    rw [if_pos ((kv_ge256 (by omega)).mpr (by omega)), kv_T_s]
  | succ k ih =>
    intro f i sc hi hf hI
    obtain ⟨f, rfl⟩ : ∃ z, f = z + 1 := ⟨f - 1, by omega⟩
    have hi2 : i < 256 := by omega
    have step : ∀ k2, pf_X0_layOnAllSets_2b mt mv (nI cnt) k2 (nI i) tk tn sc = k2 (nI (i + 1)) tk tn (upd sc i (if kv_S t i 8 ≤ cnt then nI (kv_O c i 8) else -1)) := by
      intro k2
      unfold pf_X0_layOnAllSets_2b
      rw [if_neg (fun d => by have := (kv_ge256 (by omega)).mp d; omega), q_cset mt mv i cnt t c hi2 hc hm, kv_q1_s, kv_gN hi2 (by omega), nI_clamp (show i < 2 ^ 31 by omega), nI_1]
      exact Eq.refl _
    rw [pf_X0_layOnAllSets_2.eq_2, step]
    refine ih f (i + 1) _ (by omega) (by omega) (fun S hS => ?_)
    unfold upd
    by_cases e : S = i
    · rw [if_pos e, e]
    · rw [if_neg e]; exact hI S (by omega)
theorem q_los {mt mv tk : Nat → Int32} {t c v : Nat → Nat} {cnt : Nat} {R : Nat → Prop} (tn sc : Nat → Int32) (hm : ∀ j, j < 8 → mt j = nI (t j) ∧ t j ≤ 64 ∧ mv j = nI (c j) ∧ c j < 256) (hv : kv_is tk v) (hR : ∀ S, S < 256 → (v S = 0 ↔ R S)) (hc : cnt ≤ 500) : ∃ tk' tn' sc' v', pf_X0_layOnAllSets mt mv (nI cnt) tk tn sc = some (tk', tn', sc') ∧ kv_is tk' v' ∧ kv_two v' ∧ ∀ S, S < 256 → (v' S = 0 ↔ kv_step t c cnt R S) := by
  obtain ⟨sc', g1, g2⟩ := q_los2 mt mv cnt t c hc hm tk tn 256 kv_F 0 sc (by omega) (kv_Fgt (by omega)) (fun S hS => absurd hS (Nat.not_lt_zero S))
  obtain ⟨tn', w', g3, g4, g5, g6⟩ := q_los38 mt mv sc' (nI cnt) cnt (fun U => kv_S t U 8) (fun U => kv_O c U 8) tk v hv (fun U _ => kv_O_lt 8 (fun j hj => (hm j hj).2.2.2)) g2 256 kv_F 0 (kv_fill tn 256 1000000) (fun _ => 1000000) (by omega) (kv_Fgt (by omega)) (fun S hS => ⟨by unfold kv_fill; rw [if_pos hS]; rfl, Nat.le_refl _⟩) (fun S hS => Or.inr rfl) (fun S hS => ⟨fun q => absurd q (by omega), fun ⟨a, q, _⟩ => absurd q (Nat.not_lt_zero a)⟩)
  rw [nI_0] at g1 g3
  refine ⟨va_cpy tn' tk 0 0 256, tn', sc', w', g1.trans g3, fun S hS => ?_, g5, fun S hS => ?_⟩
  · rw [pk_cpy_in (Nat.zero_le S) (by omega), Nat.zero_add, Nat.sub_zero]
    exact g4 S hS
  · rw [g6 S hS]
    constructor
    · rintro ⟨a, q1, q2, U, q3, q4, q5⟩
      exact ⟨a, U, q1, q3, (hR a q1).mp q2, q4, q5⟩
    · rintro ⟨a, U, q1, q3, q2, q4, q5⟩
      exact ⟨a, q1, (hR a q1).mpr q2, U, q3, q4, q5⟩
end KVP17
