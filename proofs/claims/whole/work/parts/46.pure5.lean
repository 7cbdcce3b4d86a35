section KVP5
def kv_S (t : Nat → Nat) (U : Nat) : Nat → Nat
  | 0 => 0
  | m + 1 => kv_S t U m + (if U.testBit m = true then t m else 0)
def kv_O (c : Nat → Nat) (U : Nat) : Nat → Nat
  | 0 => 0
  | m + 1 => kv_O c U m ||| (if U.testBit m = true then c m else 0)
theorem kv_S_c {t : Nat → Nat} {U V : Nat} : ∀ m, (∀ j, j < m → U.testBit j = V.testBit j) → kv_S t U m = kv_S t V m := by
  intro m
  induction m with
  | zero => intro _; rfl
  | succ m ih =>
    intro h
    unfold kv_S
    rw [ih (fun j hj => h j (by omega)), h m (by omega)]
theorem kv_O_c {c : Nat → Nat} {U V : Nat} : ∀ m, (∀ j, j < m → U.testBit j = V.testBit j) → kv_O c U m = kv_O c V m := by
  intro m
  induction m with
  | zero => intro _; rfl
  | succ m ih =>
    intro h
    unfold kv_O
    rw [ih (fun j hj => h j (by omega)), h m (by omega)]
theorem kv_O_lt {c : Nat → Nat} {U : Nat} : ∀ m, (∀ j, j < m → c j < 256) → kv_O c U m < 256 := by
  intro m
  induction m with
  | zero => intro _; exact Nat.zero_lt_succ 255
  | succ m ih =>
    intro h
    unfold kv_O
    refine kv_orb (ih (fun j hj => h j (by omega))) ?_
    split
    · exact h m (by omega)
    · decide
theorem kv_S_lo {t : Nat → Nat} {U m : Nat} (h : U < 2 ^ m) : kv_S t U (m + 1) = kv_S t U m := by
  show kv_S t U m + (if U.testBit m = true then t m else 0) = _
  rw [Nat.testBit_lt_two_pow h]
  rfl
theorem kv_O_lo {c : Nat → Nat} {U m : Nat} (h : U < 2 ^ m) : kv_O c U (m + 1) = kv_O c U m := by
  show kv_O c U m ||| (if U.testBit m = true then c m else 0) = _
  rw [Nat.testBit_lt_two_pow h]
  exact Nat.or_zero _
theorem kv_S_hi {t : Nat → Nat} {U m : Nat} (h : U < 2 ^ m) : kv_S t (2 ^ m + U) (m + 1) = kv_S t U m + t m := by
  show kv_S t (2 ^ m + U) m + (if (2 ^ m + U).testBit m = true then t m else 0) = _
  rw [kv_S_c (V := U) m (fun j hj => Nat.testBit_two_pow_add_gt hj U), Nat.testBit_two_pow_add_eq, Nat.testBit_lt_two_pow h]
  rfl
theorem kv_O_hi {c : Nat → Nat} {U m : Nat} (h : U < 2 ^ m) : kv_O c (2 ^ m + U) (m + 1) = kv_O c U m ||| c m := by
  show kv_O c (2 ^ m + U) m ||| (if (2 ^ m + U).testBit m = true then c m else 0) = _
  rw [kv_O_c (V := U) m (fun j hj => Nat.testBit_two_pow_add_gt hj U), Nat.testBit_two_pow_add_eq, Nat.testBit_lt_two_pow h]
  rfl
theorem kv_Fgt {k : Nat} (h : k ≤ 66000) : k < kv_F := by
  rw [kv_FS]
  omega
theorem kv_ge256 {i : Nat} (h : i ≤ 256) : (256 : Int32) ≤ nI i ↔ 256 ≤ i := nI_leI (a := 256) (by decide) (by omega)
theorem kv_orI {a b : Nat} (ha : a < 256) (hb : b < 256) : (nI a ||| nI b) &&& 255 = nI (a ||| b) := by
  have h := kv_orb ha hb
  rw [kv_or32 (by omega) (by omega), pk_andN (by omega) 8 (by decide), Nat.mod_eq_of_lt h]
theorem kv_min {a b : Nat} (ha : a < 2 ^ 31) (hb : b < 2 ^ 31) : (if nI a < nI b then nI a else nI b) = nI (min a b) := by
  by_cases h : a < b
  · rw [if_pos ((nI_ltI ha hb).mpr h), Nat.min_eq_left (by omega)]
  · rw [if_neg (fun c => h ((nI_ltI ha hb).mp c)), Nat.min_eq_right (by omega)]
def kv_is (tk : Nat → Int32) (v : Nat → Nat) : Prop := ∀ S, S < 256 → tk S = nI (v S) ∧ v S ≤ 1000000
theorem kv_lo_b (mt mv : Nat → Int32) (m : Nat) (tk : Nat → Int32) (hm8 : m < 8) (k2) : pf_X0_layOpen_2b mt mv k2 (nI m) tk = kv_G (nI m) 8 (kv_T (mv (nI m).toNatClampNeg) (fun y_13 => if y_13 = 0 then k2 (nI m + 1) tk else kv_G (nI m) 8 (kv_T (mv (nI m).toNatClampNeg) (fun y_23 => kv_G (nI m) 8 (kv_T (mt (nI m).toNatClampNeg) (fun y_29 => kv_q1 (pf_X0_layOrNot y_23 y_29 tk) (fun u_30 => k2 (nI m + 1) u_30))))))) := by
  unfold pf_X0_layOpen_2b
  rw [if_neg (fun d => by have := (kv_ge8 (by omega)).mp d; omega)]
theorem kv_lo_c (mt mv : Nat → Int32) (m : Nat) (hm8 : m < 8) (z : Option (Nat → Int32)) (K : Int32 → Int32 → Option (Nat → Int32)) : kv_G (nI m) 8 (kv_T (mv (nI m).toNatClampNeg) (fun y_13 => if y_13 = 0 then z else kv_G (nI m) 8 (kv_T (mv (nI m).toNatClampNeg) (fun y_23 => kv_G (nI m) 8 (kv_T (mt (nI m).toNatClampNeg) (fun y_29 => K y_23 y_29)))))) = if mv m = 0 then z else K (mv m) (mt m) := by
  have hg : ∀ x : Option (Nat → Int32), kv_G (nI m) 8 x = x := fun x => kv_g8 (kv_ivN hm8) x
  simp only [hg]
  unfold kv_T
  rw [nI_clamp (show m < 2 ^ 31 by omega)]
theorem kv_lo_d (mt mv : Nat → Int32) (m : Nat) (tk : Nat → Int32) (hm8 : m < 8) (k2) : pf_X0_layOpen_2b mt mv k2 (nI m) tk = if mv m = 0 then k2 (nI m + 1) tk else kv_q1 (pf_X0_layOrNot (mv m) (mt m) tk) (fun u_30 => k2 (nI m + 1) u_30) := by
  rw [kv_lo_b mt mv m tk hm8 k2]
  exact kv_lo_c mt mv m hm8 (k2 (nI m + 1) tk) (fun a b => kv_q1 (pf_X0_layOrNot a b tk) (fun u_30 => k2 (nI m + 1) u_30))
theorem kv_lo_q {α β : Type} {x : Option α} {a : α} (h : x = some a) (k : α → Option β) : kv_q1 x k = k a := by rw [h]; rfl
theorem q_lo25 (c t : Nat) (hc : c < 256) (ht : t ≤ 64) (old : Nat → Nat) : ∀ (k f i : Nat) (tk : Nat → Int32) (v : Nat → Nat), i + k = 256 → k < f → kv_is tk v → (∀ S, S < 256 → ∀ x, v S ≤ x ↔ (old S ≤ x ∨ ∃ a, a < i ∧ a ||| c = S ∧ old a + t ≤ x)) →
    ∃ (tk' : Nat → Int32) (v' : Nat → Nat), pf_X0_layOrNot_2 (nI c) (nI t) f (nI i) tk = some tk' ∧ kv_is tk' v' ∧ ∀ S, S < 256 → ∀ x, v' S ≤ x ↔ (old S ≤ x ∨ ∃ a, a < 256 ∧ a ||| c = S ∧ old a + t ≤ x) := by
  intro k
  induction k with
  | zero =>
    intro f i tk v hi hf hv hI
    obtain ⟨f, rfl⟩ : ∃ z, f = z + 1 := ⟨f - 1, by omega⟩
    refine ⟨tk, v, ?_, hv, ?_⟩
    · show pf_X0_layOrNot_2b (nI c) (nI t) (pf_X0_layOrNot_2 (nI c) (nI t) f) (nI i) tk = _
      unfold pf_X0_layOrNot_2b
      rw [if_pos ((kv_ge256 (by omega)).mpr (by omega))]
    · rw [show i = 256 by omega] at hI
      exact hI
  | succ k ih =>
    intro f i tk v hi hf hv hI
    obtain ⟨f, rfl⟩ : ∃ z, f = z + 1 := ⟨f - 1, by omega⟩
    have hi8 : i < 256 := by omega
    have hw : i ||| c < 256 := kv_orb hi8 hc
    have e0 : pf_X0_layOrNot_2 (nI c) (nI t) (f + 1) (nI i) tk = pf_X0_layOrNot_2b (nI c) (nI t) (pf_X0_layOrNot_2 (nI c) (nI t) f) (nI i) tk := rfl
    have hgw : ∀ z : Option (Nat → Int32), kv_G (nI (i ||| c)) 256 z = z := fun z => kv_gN hw (by omega) z
    have hgi : ∀ z : Option (Nat → Int32), kv_G (nI i) 256 z = z := fun z => kv_gN hi8 (by omega) z
    obtain ⟨v1, v2⟩ := hv i hi8
    obtain ⟨w1, w2⟩ := hv _ hw
    rw [e0]
    unfold pf_X0_layOrNot_2b
    rw [if_neg (fun d => by have := (kv_ge256 (by omega)).mp d; omega)]
    simp only [kv_T, kv_orI hi8 hc, hgw, hgi, nI_clamp (show i ||| c < 2 ^ 31 by omega), nI_clamp (show i < 2 ^ 31 by omega), v1, w1, nI_add, nI_1, kv_min (show v i + t < 2 ^ 31 by omega) (show v (i ||| c) < 2 ^ 31 by omega)]
    refine ih f (i + 1) _ (fun S => if S = i ||| c then min (v i + t) (v (i ||| c)) else v S) (by omega) (by omega) (fun S hS => ?_) (fun S hS x => ?_)
    · unfold upd
      by_cases e : S = i ||| c
      · simp only [if_pos e]
        exact ⟨trivial, Nat.le_trans (Nat.min_le_right _ _) w2⟩
      · simp only [if_neg e]
        exact hv S hS
    · by_cases e : S = i ||| c
      · simp only [if_pos e]
        subst e
        have hm : min (v i + t) (v (i ||| c)) ≤ x ↔ v i + t ≤ x ∨ v (i ||| c) ≤ x := by omega
        rw [hm, hI _ hw x]
        constructor
        · rintro (h | h | ⟨a, h1, h2, h3⟩)
          · rcases (hI i hi8 (x - t)).mp (by omega) with h4 | ⟨a, h4, h5, h6⟩
            · exact Or.inr ⟨i, by omega, rfl, by omega⟩
            · refine Or.inr ⟨a, by omega, ?_, by omega⟩
              rw [← h5, Nat.or_assoc, Nat.or_self]
          · exact Or.inl h
          · exact Or.inr ⟨a, by omega, h2, h3⟩
        · rintro (h | ⟨a, h1, h2, h3⟩)
          · exact Or.inr (Or.inl h)
          · by_cases h4 : a = i
            · subst h4
              have := (hI a hi8 (old a)).mpr (Or.inl (Nat.le_refl _))
              exact Or.inl (by omega)
            · exact Or.inr (Or.inr ⟨a, by omega, h2, h3⟩)
      · simp only [if_neg e]
        rw [hI S hS x]
        constructor
        · rintro (h | ⟨a, h1, h2, h3⟩)
          · exact Or.inl h
          · exact Or.inr ⟨a, by omega, h2, h3⟩
        · rintro (h | ⟨a, h1, h2, h3⟩)
          · exact Or.inl h
          · refine Or.inr ⟨a, ?_, h2, h3⟩
            have : a ≠ i := fun d => e (by rw [← h2, d])
            omega
theorem q_lon (c t : Nat) (hc : c < 256) (ht : t ≤ 64) (tk : Nat → Int32) (v : Nat → Nat) (hv : kv_is tk v) : ∃ (tk' : Nat → Int32) (v' : Nat → Nat), pf_X0_layOrNot (nI c) (nI t) tk = some tk' ∧ kv_is tk' v' ∧ ∀ S, S < 256 → ∀ x, v' S ≤ x ↔ (v S ≤ x ∨ ∃ a, a < 256 ∧ a ||| c = S ∧ v a + t ≤ x) := by
  have h := q_lo25 c t hc ht v 256 kv_F 0 tk v (by omega) (kv_Fgt (by omega)) hv (fun S hS x => ⟨Or.inl, fun h => h.elim id (fun ⟨a, h, _⟩ => absurd h (Nat.not_lt_zero a))⟩)
  rw [nI_0] at h
  exact h
theorem q_lo2 (mt mv : Nat → Int32) (t c : Nat → Nat) (hm : ∀ j, j < 8 → mt j = nI (t j) ∧ t j ≤ 64 ∧ mv j = nI (c j) ∧ c j < 256) (old : Nat → Nat) : ∀ (k f m : Nat) (tk : Nat → Int32) (v : Nat → Nat), m + k = 8 → k < f → kv_is tk v → (∀ S, S < 256 → ∀ x, v S ≤ x ↔ ∃ a U, a < 256 ∧ U < 2 ^ m ∧ old a + kv_S t U m ≤ x ∧ a ||| kv_O c U m = S) →
    ∃ (tk' : Nat → Int32) (v' : Nat → Nat), pf_X0_layOpen_2 mt mv f (nI m) tk = some tk' ∧ kv_is tk' v' ∧ ∀ S, S < 256 → ∀ x, v' S ≤ x ↔ ∃ a U, a < 256 ∧ U < 256 ∧ old a + kv_S t U 8 ≤ x ∧ a ||| kv_O c U 8 = S := by
  intro k
  induction k with
  | zero =>
    intro f m tk v hi hf hv hI
    obtain ⟨f, rfl⟩ : ∃ z, f = z + 1 := ⟨f - 1, by omega⟩
    refine ⟨tk, v, ?_, hv, ?_⟩
    · rw [pf_X0_layOpen_2.eq_2]
      unfold pf_X0_layOpen_2b
      rw [if_pos ((kv_ge8 (by omega)).mpr (by omega))]
    · have e : m = 8 := by omega
      rw [e] at hI
      exact fun S hS x => by rw [hI S hS x]
  | succ k ih =>
    intro f m tk v hi hf hv hI
    obtain ⟨f, rfl⟩ : ∃ z, f = z + 1 := ⟨f - 1, by omega⟩
    have hm8 : m < 8 := by omega
    obtain ⟨m1, m2, m3, m4⟩ := hm m hm8
    have step : pf_X0_layOpen_2 mt mv (f + 1) (nI m) tk = if nI (c m) = 0 then pf_X0_layOpen_2 mt mv f (nI m + 1) tk else kv_q1 (pf_X0_layOrNot (nI (c m)) (nI (t m)) tk) (fun u_30 => pf_X0_layOpen_2 mt mv f (nI m + 1) u_30) := by
      rw [pf_X0_layOpen_2.eq_2, kv_lo_d mt mv m tk hm8, m1, m3]
    have hp : 2 ^ (m + 1) = 2 ^ m + 2 ^ m := by rw [Nat.pow_succ]; omega
    rw [step]
    by_cases hc0 : c m = 0
    · rw [if_pos (show nI (c m) = 0 by rw [hc0, nI_0]), nI_1]
      refine ih f (m + 1) tk v (by omega) (by omega) hv (fun S hS x => ?_)
      rw [hI S hS x]
      constructor
      · rintro ⟨a, U, g1, g2, g3, g4⟩
        exact ⟨a, U, g1, by omega, by rw [kv_S_lo g2]; exact g3, by rw [kv_O_lo g2]; exact g4⟩
      · rintro ⟨a, U, g1, g2, g3, g4⟩
        by_cases hU : U < 2 ^ m
        · rw [kv_S_lo hU] at g3
          rw [kv_O_lo hU] at g4
          exact ⟨a, U, g1, hU, g3, g4⟩
        · obtain ⟨W, rfl⟩ : ∃ W, U = 2 ^ m + W := ⟨U - 2 ^ m, by omega⟩
          have hW : W < 2 ^ m := by omega
          rw [kv_S_hi hW] at g3
          rw [kv_O_hi hW, hc0, Nat.or_zero] at g4
          exact ⟨a, W, g1, hW, by omega, g4⟩
    have hcn : ¬ nI (c m) = 0 := fun d => hc0 ((nI_eq (by omega) (by omega)).mp (d.trans nI_0.symm))
    obtain ⟨tk', v', h1, h2, h3⟩ := q_lon (c m) (t m) m4 m2 tk v hv
    rw [if_neg hcn, kv_lo_q h1, nI_1]
    refine ih f (m + 1) tk' v' (by omega) (by omega) h2 (fun S hS x => ?_)
    rw [h3 S hS x]
    constructor
    · rintro (h | ⟨a, g1, g2, g3⟩)
      · obtain ⟨a, U, g1, g2, g3, g4⟩ := (hI S hS x).mp h
        exact ⟨a, U, g1, by omega, by rw [kv_S_lo g2]; exact g3, by rw [kv_O_lo g2]; exact g4⟩
      · obtain ⟨b, U, d1, d2, d3, d4⟩ := (hI a g1 (x - t m)).mp (by omega)
        refine ⟨b, 2 ^ m + U, d1, by omega, by rw [kv_S_hi d2]; omega, ?_⟩
        rw [kv_O_hi d2, ← Nat.or_assoc, d4, g2]
    · rintro ⟨a, U, g1, g2, g3, g4⟩
      by_cases hU : U < 2 ^ m
      · rw [kv_S_lo hU] at g3
        rw [kv_O_lo hU] at g4
        exact Or.inl ((hI S hS x).mpr ⟨a, U, g1, hU, g3, g4⟩)
      · obtain ⟨W, rfl⟩ : ∃ W, U = 2 ^ m + W := ⟨U - 2 ^ m, by omega⟩
        have hW : W < 2 ^ m := by omega
        rw [kv_S_hi hW] at g3
        rw [kv_O_hi hW, ← Nat.or_assoc] at g4
        have hl : a ||| kv_O c W m < 256 := kv_orb g1 (kv_O_lt m (fun j hj => (hm j (by omega)).2.2.2))
        refine Or.inr ⟨a ||| kv_O c W m, hl, g4, ?_⟩
        have := (hI _ hl (x - t m)).mpr ⟨a, W, g1, hW, by omega, rfl⟩
        omega
theorem q_lo (mt mv : Nat → Int32) (t c : Nat → Nat) (hm : ∀ j, j < 8 → mt j = nI (t j) ∧ t j ≤ 64 ∧ mv j = nI (c j) ∧ c j < 256) (tk : Nat → Int32) (v : Nat → Nat) (hv : kv_is tk v) :
    ∃ (tk' : Nat → Int32) (v' : Nat → Nat), pf_X0_layOpen mt mv tk = some tk' ∧ kv_is tk' v' ∧ ∀ S, S < 256 → ∀ x, v' S ≤ x ↔ ∃ a U, a < 256 ∧ U < 256 ∧ v a + kv_S t U 8 ≤ x ∧ a ||| kv_O c U 8 = S :=
  q_lo2 mt mv t c hm v 8 kv_F 0 tk v rfl (by decide) hv (fun S hS x => ⟨fun h => ⟨S, 0, hS, by decide, h, Nat.or_zero S⟩, fun ⟨a, U, g1, g2, g3, g4⟩ => by
    have e : a = S := (Nat.or_zero a).symm.trans g4
    rw [← e]; exact g3⟩)
end KVP5
