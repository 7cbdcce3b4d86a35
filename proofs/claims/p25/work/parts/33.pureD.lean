section KVP16
theorem kv_and1 : ∀ S, S < 256 → ∀ m, m < 8 → ((S &&& 2 ^ m) = 0 ↔ S.testBit m = false) := by decide +kernel
theorem kv_and2 {S m : Nat} (hS : S < 256) (hm : m < 8) : (nI S &&& nI (2 ^ m)) = 0 ↔ S.testBit m = false := by
  have hp := kv_p2 hm
  have hl : S &&& 2 ^ m < 256 := Nat.lt_of_le_of_lt Nat.and_le_left hS
  have e : nI S &&& nI (2 ^ m) = nI (S &&& 2 ^ m) := by
    apply Int32.toBitVec_inj.mp
    apply BitVec.eq_of_toNat_eq
    rw [Int32.toBitVec_and, BitVec.toNat_and, pk_tn (by omega), pk_tn (by omega), pk_tn (by omega)]
  have h0 : nI (S &&& 2 ^ m) = 0 ↔ (S &&& 2 ^ m) = 0 := nI_eq (b := 0) (by omega) (by omega)
  rw [e, h0]
  exact kv_and1 S hS m hm
theorem q_cos (mt mv : Nat → Int32) (S cnt : Nat) (t c : Nat → Nat) (hS : S < 256) (hc : cnt ≤ 500) (hm : ∀ j, j < 8 → mt j = nI (t j) ∧ t j ≤ 64 ∧ mv j = nI (c j) ∧ c j < 256) : ∀ (k f m : Nat), m + k = 8 → k < f → pf_X0_coverOfSet_8 mt mv (nI S) (nI cnt) f (nI (kv_S t S m)) (nI (kv_O c S m)) (nI m) = some (if kv_S t S 8 ≤ cnt then nI (kv_O c S 8) else -1) := by
  have hb : ∀ m, m ≤ 8 → kv_S t S m ≤ 64 * m := by
    intro m
    induction m with
    | zero => intro _; exact Nat.le_refl 0
    | succ m ih =>
      intro h
      have h1 := ih (by omega)
      have h2 := (hm m (by omega)).2.1
      unfold kv_S
      split <;> omega
  intro k
  induction k with
  | zero =>
    intro f m hi hf
    obtain ⟨f, rfl⟩ : ∃ z, f = z + 1 := ⟨f - 1, by omega⟩
    have e : m = 8 := by omega
    have hb8 := hb 8 (Nat.le_refl 8)
    rw [pf_X0_coverOfSet_8.eq_2, e]
    unfold pf_X0_coverOfSet_8b
    rw [if_pos ((kv_ge8 (i := 8) (by omega)).mpr (by omega))]
    by_cases d : kv_S t S 8 ≤ cnt
    · rw [if_neg (fun q => by have := (nI_ltI (by omega) (by omega)).mp q; omega), if_pos d]
    · rw [if_pos ((nI_ltI (by omega) (by omega)).mpr (by omega)), if_neg d]
  | succ k ih =>
    intro f m hi hf
    obtain ⟨f, rfl⟩ : ∃ z, f = z + 1 := ⟨f - 1, by omega⟩
    have hm8 : m < 8 := by omega
    obtain ⟨m1, m2, m3, m4⟩ := hm m hm8
    have hO : kv_O c S m < 256 := kv_O_lt m (fun j hj => (hm j (by omega)).2.2.2)
    have hS1 : kv_S t S (m + 1) = kv_S t S m + (if S.testBit m = true then t m else 0) := rfl
    have hO1 : kv_O c S (m + 1) = kv_O c S m ||| (if S.testBit m = true then c m else 0) := rfl
    have h := ih f (m + 1) (by omega) (by omega)
    rw [pf_X0_coverOfSet_8.eq_2]
    unfold pf_X0_coverOfSet_8b
    rw [if_neg (fun d => by have := (kv_ge8 (by omega)).mp d; omega), kv_bit hm8]
    simp only [kv_T, kv_g8 (kv_ivN hm8), nI_clamp (show m < 2 ^ 31 by omega), m1, m3, nI_add, nI_1, kv_or32 (show kv_O c S m < 2 ^ 31 by omega) (show c m < 2 ^ 31 by omega)]
    cases b : S.testBit m with
    | false =>
      rw [if_pos ((kv_and2 hS hm8).mpr b)]
      rw [hS1, hO1, b, if_neg (by decide), if_neg (by decide), Nat.or_zero, Nat.add_zero] at h
      exact h
    | true =>
      rw [if_neg (fun q => by have := (kv_and2 hS hm8).mp q; rw [b] at this; exact absurd this (by decide))]
      rw [hS1, hO1, b, if_pos rfl, if_pos rfl] at h
      exact h
theorem q_ata (sc : Nat → Int32) (a cnt : Nat) (T C : Nat → Nat) (ha : a < 256) (hC : ∀ U, U < 256 → C U < 256) (hsc : ∀ U, U < 256 → sc U = if T U ≤ cnt then nI (C U) else -1) (u : Nat → Nat) : ∀ (k f i : Nat) (tn : Nat → Int32) (w : Nat → Nat), i + k = 256 → k < f → kv_is tn w → kv_two w → (∀ S, S < 256 → (w S = 0 ↔ (u S = 0 ∨ ∃ U, U < i ∧ T U ≤ cnt ∧ a ||| C U = S))) → ∃ tn' w', pf_X0_addToAll_2 sc (nI a) f (nI i) tn = some tn' ∧ kv_is tn' w' ∧ kv_two w' ∧ ∀ S, S < 256 → (w' S = 0 ↔ (u S = 0 ∨ ∃ U, U < 256 ∧ T U ≤ cnt ∧ a ||| C U = S)) := by
  intro k
  induction k with
  | zero =>
    intro f i tn w hi hf h1 h2 h3
    obtain ⟨f, rfl⟩ : ∃ z, f = z + 1 := ⟨f - 1, by omega⟩
    refine ⟨tn, w, ?_, h1, h2, ?_⟩
    · rw [pf_X0_addToAll_2.eq_2]
      unfold pf_X0_addToAll_2b
      rw [if_pos ((kv_ge256 (by omega)).mpr (by omega))]
    · rw [show i = 256 by omega] at h3
      exact h3
  | succ k ih =>
    intro f i tn w hi hf h1 h2 h3
    obtain ⟨f, rfl⟩ : ∃ z, f = z + 1 := ⟨f - 1, by omega⟩
    have hi2 : i < 256 := by omega
    have hci := hC i hi2
    have hor := kv_orb ha hci
    have hne : ¬ nI (C i) = -1 := fun c => by
      have := congrArg Int32.toInt c
      rw [nI_toInt (by omega), kv_in1] at this
      omega
    have step : ∀ k2 : Int32 → (Nat → Int32) → Option (Nat → Int32), pf_X0_addToAll_2b sc (nI a) k2 (nI i) tn = if T i ≤ cnt then k2 (nI (i + 1)) (upd tn (a ||| C i) 0) else k2 (nI (i + 1)) tn := by
      intro k2
      unfold pf_X0_addToAll_2b
      rw [if_neg (fun d => by have := (kv_ge256 (by omega)).mp d; omega), kv_gN hi2 (by omega)]
      simp only [kv_T, nI_clamp (show i < 2 ^ 31 by omega), nI_1, kv_gN hi2 (show i < 2 ^ 31 by omega), hsc i hi2]
      by_cases c : T i ≤ cnt
      · simp only [if_pos c]
        rw [if_neg hne, kv_orI ha hci, kv_gN hor (by omega), nI_clamp (by omega)]
      · simp only [if_neg c]
        rw [if_pos trivial]
    rw [pf_X0_addToAll_2.eq_2, step]
    by_cases c : T i ≤ cnt
    · rw [if_pos c]
      refine ih f (i + 1) _ (fun S => if S = a ||| C i then 0 else w S) (by omega) (by omega) (fun S hS => ?_) (fun S hS => ?_) (fun S hS => ?_)
      · unfold upd
        by_cases e : S = a ||| C i
        · simp only [if_pos e]; exact ⟨rfl, by omega⟩
        · simp only [if_neg e]; exact h1 S hS
      · by_cases e : S = a ||| C i
        · simp only [if_pos e]; exact Or.inl trivial
        · simp only [if_neg e]; exact h2 S hS
      · by_cases e : S = a ||| C i
        · simp only [if_pos e]
          exact ⟨fun _ => Or.inr ⟨i, by omega, c, e.symm⟩, fun _ => trivial⟩
        · simp only [if_neg e]
          rw [h3 S hS]
          constructor
          · rintro (q | ⟨U, q1, q2, q3⟩)
            · exact Or.inl q
            · exact Or.inr ⟨U, by omega, q2, q3⟩
          · rintro (q | ⟨U, q1, q2, q3⟩)
            · exact Or.inl q
            · exact Or.inr ⟨U, by have : U ≠ i := fun d => e (by rw [← q3, d]); omega, q2, q3⟩
    · rw [if_neg c]
      refine ih f (i + 1) tn w (by omega) (by omega) h1 h2 (fun S hS => ?_)
      rw [h3 S hS]
      constructor
      · rintro (q | ⟨U, q1, q2, q3⟩)
        · exact Or.inl q
        · exact Or.inr ⟨U, by omega, q2, q3⟩
      · rintro (q | ⟨U, q1, q2, q3⟩)
        · exact Or.inl q
        · exact Or.inr ⟨U, by have : U ≠ i := fun d => c (by rw [← d]; exact q2); omega, q2, q3⟩
end KVP16


section KVP17
theorem kv_T_s {α β : Type} (x : α) (k : α → β) : kv_T x k = k x := rfl
theorem q_cset (mt mv : Nat → Int32) (S cnt : Nat) (t c : Nat → Nat) (hS : S < 256) (hc : cnt ≤ 500) (hm : ∀ j, j < 8 → mt j = nI (t j) ∧ t j ≤ 64 ∧ mv j = nI (c j) ∧ c j < 256) : pf_X0_coverOfSet mt mv (nI S) (nI cnt) = some (if kv_S t S 8 ≤ cnt then nI (kv_O c S 8) else -1) := q_cos mt mv S cnt t c hS hc hm 8 kv_F 0 (by omega) (kv_Fgt (by omega))
theorem q_los38 (mt mv sc : Nat → Int32) (p0 : Int32) (cnt : Nat) (T C : Nat → Nat) (tk : Nat → Int32) (v : Nat → Nat) (hv : kv_is tk v) (hC : ∀ U, U < 256 → C U < 256) (hsc : ∀ U, U < 256 → sc U = if T U ≤ cnt then nI (C U) else -1) : ∀ (k f i : Nat) (tn : Nat → Int32) (w : Nat → Nat), i + k = 256 → k < f → kv_is tn w → kv_two w → (∀ S, S < 256 → (w S = 0 ↔ ∃ a, a < i ∧ v a = 0 ∧ ∃ U, U < 256 ∧ T U ≤ cnt ∧ a ||| C U = S)) → ∃ tn' w', pf_X0_layOnAllSets_38 mt mv p0 f (nI i) tk tn sc = some (va_cpy tn' tk 0 0 256, tn', sc) ∧ kv_is tn' w' ∧ kv_two w' ∧ ∀ S, S < 256 → (w' S = 0 ↔ ∃ a, a < 256 ∧ v a = 0 ∧ ∃ U, U < 256 ∧ T U ≤ cnt ∧ a ||| C U = S) := by
  intro k
  induction k with
  | zero =>
    intro f i tn w hi hf h1 h2 h3
    obtain ⟨f, rfl⟩ : ∃ z, f = z + 1 := ⟨f - 1, by omega⟩
    refine ⟨tn, w, ?_, h1, h2, ?_⟩
    · rw [pf_X0_layOnAllSets_38.eq_2]
      unfold pf_X0_layOnAllSets_38b
      rw [if_pos ((kv_ge256 (by omega)).mpr (by omega))]
      rfl
    · rw [show i = 256 by omega] at h3
      exact h3
  | succ k ih =>
    intro f i tn w hi hf h1 h2 h3
    obtain ⟨f, rfl⟩ : ∃ z, f = z + 1 := ⟨f - 1, by omega⟩
    have hi2 : i < 256 := by omega
    obtain ⟨v1, v2⟩ := hv i hi2
    have h0 : nI (v i) = 0 ↔ v i = 0 := nI_eq (b := 0) (by omega) (by omega)
    have step : ∀ k2, pf_X0_layOnAllSets_38b mt mv p0 k2 (nI i) tk tn sc = if v i = 0 then kv_q1 (pf_X0_addToAll sc (nI i) tn) (fun u_56 => k2 (nI (i + 1)) tk u_56 sc) else k2 (nI (i + 1)) tk tn sc := by
      intro k2
      unfold pf_X0_layOnAllSets_38b
      rw [if_neg (fun d => by have := (kv_ge256 (by omega)).mp d; omega), kv_gN hi2 (by omega)]
      simp only [kv_T, nI_clamp (show i < 2 ^ 31 by omega), nI_1, v1, h0]
    rw [pf_X0_layOnAllSets_38.eq_2, step]
    by_cases c : v i = 0
    · rw [if_pos c]
      obtain ⟨tn', w', g1, g2, g3, g4⟩ := q_ata sc i cnt T C hi2 hC hsc w 256 kv_F 0 tn w (by omega) (kv_Fgt (by omega)) h1 h2 (fun S hS => ⟨Or.inl, fun q => q.elim id (fun ⟨U, q1, _⟩ => absurd q1 (Nat.not_lt_zero U))⟩)
      rw [nI_0] at g1
      have g5 : pf_X0_addToAll sc (nI i) tn = some tn' := g1
      rw [g5]
      refine ih f (i + 1) tn' w' (by omega) (by omega) g2 g3 (fun S hS => ?_)
      rw [g4 S hS, h3 S hS]
      constructor
      · rintro (⟨a, q1, q2⟩ | ⟨U, q1, q2, q3⟩)
        · exact ⟨a, by omega, q2⟩
        · exact ⟨i, by omega, c, U, q1, q2, q3⟩
      · rintro ⟨a, q1, q2, U, q3, q4, q5⟩
        by_cases e : a = i
        · exact Or.inr ⟨U, q3, q4, by rw [← e]; exact q5⟩
        · exact Or.inl ⟨a, by omega, q2, U, q3, q4, q5⟩
    · rw [if_neg c]
      refine ih f (i + 1) tn w (by omega) (by omega) h1 h2 (fun S hS => ?_)
      rw [h3 S hS]
      constructor
      · rintro ⟨a, q1, q2⟩
        exact ⟨a, by omega, q2⟩
      · rintro ⟨a, q1, q2, q3⟩
        exact ⟨a, by have : a ≠ i := fun e => c (by rw [← e]; exact q2); omega, q2, q3⟩
theorem q_los2 (mt mv : Nat → Int32) (cnt : Nat) (t c : Nat → Nat) (hc : cnt ≤ 500) (hm : ∀ j, j < 8 → mt j = nI (t j) ∧ t j ≤ 64 ∧ mv j = nI (c j) ∧ c j < 256) (tk tn : Nat → Int32) : ∀ (k f i : Nat) (sc : Nat → Int32), i + k = 256 → k < f → (∀ S, S < i → sc S = if kv_S t S 8 ≤ cnt then nI (kv_O c S 8) else -1) → ∃ sc', pf_X0_layOnAllSets_2 mt mv (nI cnt) f (nI i) tk tn sc = pf_X0_layOnAllSets_38 mt mv (nI cnt) kv_F 0 tk (kv_fill tn 256 1000000) sc' ∧ ∀ S, S < 256 → sc' S = if kv_S t S 8 ≤ cnt then nI (kv_O c S 8) else -1 := by
  intro k
  induction k with
  | zero =>
    intro f i sc hi hf hI
    obtain ⟨f, rfl⟩ : ∃ z, f = z + 1 := ⟨f - 1, by omega⟩
    refine ⟨sc, ?_, fun S hS => hI S (by omega)⟩
    rw [pf_X0_layOnAllSets_2.eq_2]
    unfold pf_X0_layOnAllSets_2b
    rw [if_pos ((kv_ge256 (by omega)).mpr (by omega)), kv_T_s]
  | succ k ih =>
    intro f i sc hi hf hI
    obtain ⟨f, rfl⟩ : ∃ z, f = z + 1 := ⟨f - 1, by omega⟩
    have hi2 : i < 256 := by omega
    have step : ∀ k2, pf_X0_layOnAllSets_2b mt mv (nI cnt) k2 (nI i) tk tn sc = k2 (nI (i + 1)) tk tn (upd sc i (if kv_S t i 8 ≤ cnt then nI (kv_O c i 8) else -1)) := by
      intro k2
      unfold pf_X0_layOnAllSets_2b
      rw [if_neg (fun d => by have := (kv_ge256 (by omega)).mp d; omega), q_cset mt mv i cnt t c hi2 hc hm, kv_q1_s, kv_gN hi2 (by omega), nI_clamp (show i < 2 ^ 31 by omega), nI_1]
      exact Eq.refl _
    rw [pf_X0_layOnAllSets_2.eq_2, step]
    refine ih f (i + 1) _ (by omega) (by omega) (fun S hS => ?_)
    unfold upd
    by_cases e : S = i
    · rw [if_pos e, e]
    · rw [if_neg e]; exact hI S (by omega)
theorem q_los {mt mv tk : Nat → Int32} {t c v : Nat → Nat} {cnt : Nat} {R : Nat → Prop} (tn sc : Nat → Int32) (hm : ∀ j, j < 8 → mt j = nI (t j) ∧ t j ≤ 64 ∧ mv j = nI (c j) ∧ c j < 256) (hv : kv_is tk v) (hR : ∀ S, S < 256 → (v S = 0 ↔ R S)) (hc : cnt ≤ 500) : ∃ tk' tn' sc' v', pf_X0_layOnAllSets mt mv (nI cnt) tk tn sc = some (tk', tn', sc') ∧ kv_is tk' v' ∧ kv_two v' ∧ ∀ S, S < 256 → (v' S = 0 ↔ kv_step t c cnt R S) := by
  obtain ⟨sc', g1, g2⟩ := q_los2 mt mv cnt t c hc hm tk tn 256 kv_F 0 sc (by omega) (kv_Fgt (by omega)) (fun S hS => absurd hS (Nat.not_lt_zero S))
  obtain ⟨tn', w', g3, g4, g5, g6⟩ := q_los38 mt mv sc' (nI cnt) cnt (fun U => kv_S t U 8) (fun U => kv_O c U 8) tk v hv (fun U _ => kv_O_lt 8 (fun j hj => (hm j hj).2.2.2)) g2 256 kv_F 0 (kv_fill tn 256 1000000) (fun _ => 1000000) (by omega) (kv_Fgt (by omega)) (fun S hS => ⟨by unfold kv_fill; rw [if_pos hS]; rfl, Nat.le_refl _⟩) (fun S hS => Or.inr rfl) (fun S hS => ⟨fun q => absurd q (by omega), fun ⟨a, q, _⟩ => absurd q (Nat.not_lt_zero a)⟩)
  rw [nI_0] at g1 g3
  refine ⟨va_cpy tn' tk 0 0 256, tn', sc', w', g1.trans g3, fun S hS => ?_, g5, fun S hS => ?_⟩
  · rw [pk_cpy_in (Nat.zero_le S) (by omega), Nat.zero_add, Nat.sub_zero]
    exact g4 S hS
  · rw [g6 S hS]
    constructor
    · rintro ⟨a, q1, q2, U, q3, q4, q5⟩
      exact ⟨a, U, q1, q3, (hR a q1).mp q2, q4, q5⟩
    · rintro ⟨a, U, q1, q3, q2, q4, q5⟩
      exact ⟨a, q1, (hR a q1).mpr q2, U, q3, q4, q5⟩
end KVP17


section KVP18
def kv_ct (use : Nat → Bool) : Nat → Nat → Nat → Nat
  | _, 0, x => x
  | i, k + 1, x => kv_ct use (i + 1) k (if use i = true then x + 1 else x)
theorem kv_ni1 {i : Nat} (h : i < 100) : ¬ nI i = -1 := fun c => by
  have := congrArg Int32.toInt c
  rw [nI_toInt (by omega), kv_in1] at this
  omega
theorem kv_use_t {qp qc : Nat → Int32} {p0 : Int32} {i : Nat} (hi : i < 100) : kv_use qp qc p0 (-1) i = true ↔ qp i = p0 ∧ ¬ qc i ≤ 0 := by
  unfold kv_use
  rw [decide_eq_false (kv_ni1 hi)]
  simp
theorem q_few2 (n : Nat) (qp qc : Nat → Int32) (p0 : Int32) (hn : n ≤ 12) : ∀ (k f i x : Nat), i + k = n → k < f → x ≤ i → pf_X2_requireFewRights_4 n qp qc p0 f (nI x) (nI i) = if kv_ct (kv_use qp qc p0 (-1)) i k x ≤ 2 then some (.inl ()) else some (.inr 3) := by
  intro k
  induction k with
  | zero =>
    intro f i x hi hf hx
    obtain ⟨f, rfl⟩ : ∃ z, f = z + 1 := ⟨f - 1, by omega⟩
    have h2 : nI x ≤ 2 ↔ x ≤ 2 := nI_leI (b := 2) (by omega) (by omega)
    rw [pf_X2_requireFewRights_4.eq_2]
    unfold pf_X2_requireFewRights_4b kv_ct
    rw [if_pos ((kv_leN hn (by omega)).mpr (by omega))]
    simp only [h2]
  | succ k ih =>
    intro f i x hi hf hx
    obtain ⟨f, rfl⟩ : ∃ z, f = z + 1 := ⟨f - 1, by omega⟩
    have hin : i < n := by omega
    have hu := kv_use_t (qp := qp) (qc := qc) (p0 := p0) (i := i) (by omega)
    have hc : kv_ct (kv_use qp qc p0 (-1)) i (k + 1) x = kv_ct (kv_use qp qc p0 (-1)) (i + 1) k (if kv_use qp qc p0 (-1) i = true then x + 1 else x) := rfl
    rw [pf_X2_requireFewRights_4.eq_2, hc]
    unfold pf_X2_requireFewRights_4b
    rw [if_neg (fun d => by have := (kv_leN hn (by omega)).mp d; omega), kv_lN hn hin]
    simp only [kv_T, nI_clamp (show i < 2 ^ 31 by omega), nI_1]
    by_cases c2 : qp i = p0
    · by_cases c3 : qc i ≤ 0
      · rw [if_pos c2, if_pos c3, if_neg (fun q => (hu.mp q).2 c3)]
        exact ih f (i + 1) x (by omega) (by omega) (by omega)
      · rw [if_pos c2, if_neg c3, if_pos (hu.mpr ⟨c2, c3⟩)]
        exact ih f (i + 1) (x + 1) (by omega) (by omega) (by omega)
    · rw [if_neg c2, if_neg (fun q => c2 (hu.mp q).1)]
      exact ih f (i + 1) x (by omega) (by omega) (by omega)
theorem q_gba (kc kh : Nat → Int32) (fo : Nat → Nat → Int32) (kp : Nat → Int32) (n : Nat) (qp qm qv qc : Nat → Int32) (p0 : Int32) (sw : Nat → Int32) (hv : Int32) (hn : n ≤ 12) (hq : ∀ i, i < n → kv_iv (qp i) 0 3 = true) (hqc : ∀ i, i < n → 0 ≤ qc i ∧ qc i ≤ 500) (hK : ∀ i, i < 8 → 1 ≤ kc i ∧ kc i ≤ 64) :
    ∀ (k f i : Nat) (mt mv tk tn sc : Nat → Int32) (v : Nat → Nat) (R : Nat → Prop), i + k = n → k < f → kv_is tk v → kv_two v → (∀ S, S < 256 → (v S = 0 ↔ R S)) →
    ∃ mt' mv' tk' tn' sc' v', pf_X2_gapByAll_16 kc kh fo kp n qp qm qv qc p0 f (nI i) mt mv sw hv tk tn sc = kv_q1 (pf_X0_leastUncoveredWithin sw hv tk' 0) (fun r_89 => kv_q1 (pf_X0_weightOfSet sw r_89) (fun r_92 => some (.inl (r_92, mt', mv', sw, hv, tk', tn', sc')))) ∧ kv_is tk' v' ∧ kv_two v' ∧ ∀ S, S < 256 → (v' S = 0 ↔ kv_reach (kv_use qp qc p0 (-1)) (kv_tk kc qm) (fun r j => kv_cv fo qp qm qv kh r (nI j)) (fun r => (qc r).toInt.toNat) i k R S) := by
  intro k
  induction k with
  | zero =>
    intro f i mt mv tk tn sc v R hi hf h1 h2 h3
    obtain ⟨f, rfl⟩ : ∃ z, f = z + 1 := ⟨f - 1, by omega⟩
    refine ⟨mt, mv, tk, tn, sc, v, ?_, h1, h2, h3⟩
    rw [pf_X2_gapByAll_16.eq_2]
    unfold pf_X2_gapByAll_16b
    rw [if_pos ((kv_leN hn (by omega)).mpr (by omega))]
  | succ k ih =>
    intro f i mt mv tk tn sc v R hi hf h1 h2 h3
    obtain ⟨f, rfl⟩ : ∃ z, f = z + 1 := ⟨f - 1, by omega⟩
    have hin : i < n := by omega
    have hu := kv_use_t (qp := qp) (qc := qc) (p0 := p0) (i := i) (by omega)
    have pre : ∀ k2, pf_X2_gapByAll_16b kc kh fo kp n qp qm qv qc p0 k2 (nI i) mt mv sw hv tk tn sc = (if qp i = p0 then if qc i ≤ 0 then k2 (nI (i + 1)) mt mv sw hv tk tn sc else kv_q2 (pf_X2_takeUp kc fo n qp qm qv i kh mt mv) (fun o0_60 o1_60 => kv_q3 (pf_X0_layOnAllSets o0_60 o1_60 (qc i) tk tn sc) (fun o0_71 o1_71 o2_71 => k2 (nI (i + 1)) o0_60 o1_60 sw hv o0_71 o1_71 o2_71)) else k2 (nI (i + 1)) mt mv sw hv tk tn sc) := by
      intro k2
      unfold pf_X2_gapByAll_16b
      rw [if_neg (fun d => by have := (kv_leN hn (by omega)).mp d; omega), kv_lN hn hin]
      simp only [kv_T, nI_clamp (show i < 2 ^ 31 by omega), nI_1]
    by_cases c2 : qp i = p0
    · by_cases c3 : qc i ≤ 0
      · obtain ⟨a, b, d, e, e', e'', g1, g2, g3, g4⟩ := ih f (i + 1) mt mv tk tn sc v R (by omega) (by omega) h1 h2 h3
        refine ⟨a, b, d, e, e', e'', ?_, g2, g3, ?_⟩
        · rw [pf_X2_gapByAll_16.eq_2, pre, if_pos c2, if_pos c3]; exact g1
        · rw [kv_reach_S, Bool.eq_false_iff.mpr (fun q => (hu.mp q).2 c3)]; exact g4
      · obtain ⟨mt', mv', t1, t2⟩ := q_take kc fo n qp qm qv kh i mt mv (hq i hin) hK
        obtain ⟨e1, e2⟩ := kv_cntN (hqc i hin).1 (hqc i hin).2
        obtain ⟨tk', tn', sc', v', s1, s2, s3, s4⟩ := q_los (t := kv_tk kc qm i) (c := fun j => kv_cv fo qp qm qv kh i (nI j)) (cnt := (qc i).toInt.toNat) (R := R) tn sc t2 h1 h3 e2
        rw [← e1] at s1
        obtain ⟨a, b, d, e, e', e'', g1, g2, g3, g4⟩ := ih f (i + 1) mt' mv' tk' tn' sc' v' _ (by omega) (by omega) s2 s3 s4
        refine ⟨a, b, d, e, e', e'', ?_, g2, g3, ?_⟩
        · rw [pf_X2_gapByAll_16.eq_2, pre, if_pos c2, if_neg c3, t1]
          simp only [kv_q2, kv_q3, s1]
          exact g1
        · rw [kv_reach_S, hu.mpr ⟨c2, c3⟩]; exact g4
    · obtain ⟨a, b, d, e, e', e'', g1, g2, g3, g4⟩ := ih f (i + 1) mt mv tk tn sc v R (by omega) (by omega) h1 h2 h3
      refine ⟨a, b, d, e, e', e'', ?_, g2, g3, ?_⟩
      · rw [pf_X2_gapByAll_16.eq_2, pre, if_neg c2]; exact g1
      · rw [kv_reach_S, Bool.eq_false_iff.mpr (fun q => c2 (hu.mp q).1)]; exact g4
end KVP18


section KVP19
theorem kv_q3_s {A B C β : Type} (a : A) (b : B) (c : C) (k : A → B → C → Option β) : kv_q3 (some (a, b, c)) k = k a b c := rfl
theorem q_fewc (n : Nat) (qp qc : Nat → Int32) (p0 : Int32) (hn : n ≤ 12) : pf_X2_requireFewRights n qp qc p0 = if kv_ct (kv_use qp qc p0 (-1)) 0 n 0 ≤ 2 then some (.inl ()) else some (.inr 3) := by
  have h := q_few2 n qp qc p0 hn n kv_F 0 0 (by omega) (kv_Fgt (by omega)) (Nat.le_refl 0)
  rw [nI_0] at h
  exact h
theorem q_gbac (kc kh : Nat → Int32) (fo : Nat → Nat → Int32) (kp : Nat → Int32) (n : Nat) (qp qm qv qc : Nat → Int32) (p0 : Int32) (mt mv sw : Nat → Int32) (hv : Int32) (tk tn sc : Nat → Int32) (hn : n ≤ 12) (c1 : kv_iv p0 0 3 = true) : pf_X2_gapByAll kc kh fo kp n qp qm qv qc p0 mt mv sw hv tk tn sc = if kv_ct (kv_use qp qc p0 (-1)) 0 n 0 ≤ 2 then kv_q3 (pf_X2_startLayings kc fo kp p0 sw hv tk) (fun o0_11 o1_11 o2_11 => pf_X2_gapByAll_16 kc kh fo kp n qp qm qv qc p0 kv_F 0 mt mv o0_11 o1_11 o2_11 tn sc) else some (.inr 3) := by
  unfold pf_X2_gapByAll
  rw [q_P, if_pos c1, kv_x0_s, q_fewc n qp qc p0 hn]
  by_cases c2 : kv_ct (kv_use qp qc p0 (-1)) 0 n 0 ≤ 2
  · rw [if_pos c2, if_pos c2, kv_x0_s]
  · rw [if_neg c2, if_neg c2]
    exact Eq.refl _
theorem kv_ct_c {use use' : Nat → Bool} : ∀ (k i x : Nat), (∀ j, i ≤ j → j < i + k → use j = use' j) → kv_ct use i k x = kv_ct use' i k x := by
  intro k
  induction k with
  | zero => intro i x _; rfl
  | succ k ih =>
    intro i x h
    show kv_ct use (i + 1) k _ = kv_ct use' (i + 1) k _
    rw [h i (Nat.le_refl i) (by omega)]
    exact ih (i + 1) _ (fun j a b => h j (by omega) (by omega))
end KVP19

section KVP20
theorem kv_step_comm {t c t' c' : Nat → Nat} {x y : Nat} {R : Nat → Prop} (hc : ∀ j, j < 8 → c j < 256) (S : Nat) (h : kv_step t c x (kv_step t' c' y R) S) : kv_step t' c' y (kv_step t c x R) S := by
  obtain ⟨a, U, a1, a2, ⟨b, V, b1, b2, b3, b4, b5⟩, a4, a5⟩ := h
  refine ⟨b ||| kv_O c U 8, V, kv_orb b1 (kv_O_lt 8 hc), b2, ⟨b, U, b1, a2, b3, a4, rfl⟩, b4, ?_⟩
  rw [← a5, ← b5, Nat.or_assoc, Nat.or_assoc, Nat.or_comm (kv_O c U 8)]
theorem kv_step_iff {t c : Nat → Nat} {x : Nat} {R R' : Nat → Prop} (h : ∀ S, S < 256 → (R S ↔ R' S)) (S : Nat) : kv_step t c x R S ↔ kv_step t c x R' S := by
  constructor
  · rintro ⟨a, U, a1, a2, a3, a4, a5⟩
    exact ⟨a, U, a1, a2, (h a a1).mp a3, a4, a5⟩
  · rintro ⟨a, U, a1, a2, a3, a4, a5⟩
    exact ⟨a, U, a1, a2, (h a a1).mpr a3, a4, a5⟩
theorem kv_reach_iff {use : Nat → Bool} {t c : Nat → Nat → Nat} {cnt : Nat → Nat} : ∀ (k i : Nat) (R R' : Nat → Prop), (∀ S, S < 256 → (R S ↔ R' S)) → ∀ S, S < 256 → (kv_reach use t c cnt i k R S ↔ kv_reach use t c cnt i k R' S) := by
  intro k
  induction k with
  | zero => intro i R R' h S hS; exact h S hS
  | succ k ih =>
    intro i R R' h S hS
    rw [kv_reach_S, kv_reach_S]
    refine ih (i + 1) _ _ (fun V hV => ?_) S hS
    cases use i with
    | false => exact h V hV
    | true => exact kv_step_iff h V
theorem kv_reach_step {use : Nat → Bool} {t c : Nat → Nat → Nat} {cnt : Nat → Nat} {t0 c0 : Nat → Nat} {x : Nat} (hc : ∀ i j, j < 8 → c i j < 256) (hc0 : ∀ j, j < 8 → c0 j < 256) : ∀ (k i : Nat) (R : Nat → Prop) (S : Nat), S < 256 → (kv_reach use t c cnt i k (kv_step t0 c0 x R) S ↔ kv_step t0 c0 x (kv_reach use t c cnt i k R) S) := by
  intro k
  induction k with
  | zero => intro i R S hS; exact Iff.rfl
  | succ k ih =>
    intro i R S hS
    rw [kv_reach_S, kv_reach_S, ← ih (i + 1) _ S hS]
    refine kv_reach_iff k (i + 1) _ _ (fun V hV => ?_) S hS
    cases use i with
    | false => exact Iff.rfl
    | true => exact ⟨kv_step_comm (hc i) V, kv_step_comm hc0 V⟩
theorem kv_reach_out {use use' : Nat → Bool} {t c : Nat → Nat → Nat} {cnt cnt' : Nat → Nat} {r N : Nat} (hc : ∀ i j, j < 8 → c i j < 256) (hu : use r = false) (h : ∀ j, j < N → j ≠ r → use' j = use j ∧ cnt' j = cnt j) : ∀ (k i : Nat) (R : Nat → Prop) (S : Nat), i ≤ r → r < i + k → i + k ≤ N → S < 256 → (kv_reach use' t c cnt' i k R S ↔ (match use' r with | true => kv_step (t r) (c r) (cnt' r) (kv_reach use t c cnt i k R) | false => kv_reach use t c cnt i k R) S) := by
  intro k
  induction k with
  | zero => intro i R S h1 h2 hN hS; omega
  | succ k ih =>
    intro i R S h1 h2 hN hS
    by_cases e : i = r
    · subst e
      rw [kv_reach_S, kv_reach_S use, hu]
      have hrest : ∀ Q, kv_reach use' t c cnt' (i + 1) k Q = kv_reach use t c cnt (i + 1) k Q := fun Q => kv_reach_c k (i + 1) Q (fun j a b => h j (by omega) (by omega))
      rw [hrest]
      cases use' i with
      | false => exact Iff.rfl
      | true => exact kv_reach_step hc (hc i) k (i + 1) R S hS
    · obtain ⟨g1, g2⟩ := h i (by omega) e
      rw [kv_reach_S, kv_reach_S use, g1, g2]
      exact ih (i + 1) _ S (by omega) (by omega) (by omega) hS
theorem kv_S_pos {t : Nat → Nat} {U : Nat} (ht : ∀ j, j < 8 → 1 ≤ t j) (hU : U < 256) (h : kv_S t U 8 = 0) : U = 0 := by
  refine kv_bits0 U hU (fun j hj => ?_)
  have key : ∀ m, m ≤ 8 → ∀ j, j < m → U.testBit j = true → 1 ≤ kv_S t U m := by
    intro m
    induction m with
    | zero => intro _ j hj; omega
    | succ m ih =>
      intro hm j hj hb
      show 1 ≤ kv_S t U m + (if U.testBit m = true then t m else 0)
      by_cases e : j = m
      · have := ht m (by omega)
        rw [← e, if_pos hb, e]
        omega
      · have := ih (by omega) j (by omega) hb
        omega
  cases b : U.testBit j with
  | false => rfl
  | true =>
    have := key 8 (Nat.le_refl 8) j hj b
    omega
theorem kv_step_0 {t c : Nat → Nat} {R : Nat → Prop} (ht : ∀ j, j < 8 → 1 ≤ t j) (S : Nat) (hS : S < 256) : kv_step t c 0 R S ↔ R S := by
  constructor
  · rintro ⟨a, U, a1, a2, a3, a4, a5⟩
    have e := kv_S_pos ht a2 (by omega)
    rw [e, kv_O0, Nat.or_zero] at a5
    rw [← a5]
    exact a3
  · intro h
    exact ⟨S, 0, hS, by omega, h, by rw [kv_S0]; exact Nat.le_refl 0, by rw [kv_O0]; exact Nat.or_zero S⟩
theorem kv_less_t {W : Nat → Nat} {a b : Nat} (h : kv_less W a b = true) : W a ≤ W b := by
  unfold kv_less at h
  simp only [Bool.or_eq_true, Bool.and_eq_true, decide_eq_true_eq] at h
  omega
theorem kv_less_f {W : Nat → Nat} {a b : Nat} (h : kv_less W a b = false) : W b ≤ W a := by
  unfold kv_less at h
  simp only [Bool.or_eq_false_iff, decide_eq_false_iff_not] at h
  omega
theorem kv_pick_min {W d : Nat → Nat} {ok : Nat → Bool} : ∀ (k i L : Nat), W (kv_pick W d ok i k L) ≤ W L ∧ (∀ S, i ≤ S → S < i + k → ok S = true → W (kv_pick W d ok i k L) ≤ W (d S)) ∧ (kv_pick W d ok i k L = L ∨ ∃ S, i ≤ S ∧ S < i + k ∧ ok S = true ∧ kv_pick W d ok i k L = d S) := by
  intro k
  induction k with
  | zero => intro i L; exact ⟨Nat.le_refl _, fun S a b => by omega, Or.inl rfl⟩
  | succ k ih =>
    intro i L
    rw [kv_pick_S]
    cases hb : (ok i && kv_less W (d i) L) with
    | true =>
      rw [if_pos rfl]
      rw [Bool.and_eq_true] at hb
      obtain ⟨p1, p2, p3⟩ := ih (i + 1) (d i)
      refine ⟨Nat.le_trans p1 (kv_less_t hb.2), fun S a b c => ?_, ?_⟩
      · by_cases e : S = i
        · rw [e]; exact p1
        · exact p2 S (by omega) (by omega) c
      · rcases p3 with p3 | ⟨S, q1, q2, q3, q4⟩
        · exact Or.inr ⟨i, Nat.le_refl i, by omega, hb.1, p3⟩
        · exact Or.inr ⟨S, by omega, by omega, q3, q4⟩
    | false =>
      rw [if_neg (by decide)]
      obtain ⟨p1, p2, p3⟩ := ih (i + 1) L
      refine ⟨p1, fun S a b c => ?_, ?_⟩
      · by_cases e : S = i
        · rw [e] at c ⊢
          rw [c, Bool.true_and] at hb
          exact Nat.le_trans p1 (kv_less_f hb)
        · exact p2 S (by omega) (by omega) c
      · rcases p3 with p3 | ⟨S, q1, q2, q3, q4⟩
        · exact Or.inl p3
        · exact Or.inr ⟨S, by omega, by omega, q3, q4⟩
/-- the least weight over the sets that may be covered -/
theorem kv_pick_w {W d : Nat → Nat} {ok : Nat → Bool} {h : Nat} (hd : d 0 = h) (h0 : ok 0 = true) : (∀ S, S < 256 → ok S = true → W (kv_pick W d ok 0 256 h) ≤ W (d S)) ∧ ∃ S, S < 256 ∧ ok S = true ∧ W (kv_pick W d ok 0 256 h) = W (d S) := by
  obtain ⟨p1, p2, p3⟩ := @kv_pick_min W d ok 256 0 h
  refine ⟨fun S a b => p2 S (by omega) (by omega) b, ?_⟩
  rcases p3 with p3 | ⟨S, q1, q2, q3, q4⟩
  · exact ⟨0, by omega, h0, by rw [p3, hd]⟩
  · exact ⟨S, by omega, q3, by rw [q4]⟩
end KVP20


section KVP22
theorem kv_x1_s {A β : Type} (a : A) (k : A → Option (β ⊕ Nat)) : kv_x1 (some (.inl a)) k = k a := rfl
theorem kv_q5_s {A B C E F β : Type} (a : A) (b : B) (c : C) (d : E) (e : F) (k : A → B → C → E → F → Option β) : kv_q5 (some (a, b, c, d, e)) k = k a b c d e := rfl
end KVP22

