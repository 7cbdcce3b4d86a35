section KVP5
def kv_S (t : Nat → Nat) (U : Nat) : Nat → Nat
  | 0 => 0
  | m + 1 => kv_S t U m + (if U.testBit m = true then t m else 0)
def kv_O (c : Nat → Nat) (U : Nat) : Nat → Nat
  | 0 => 0
  | m + 1 => kv_O c U m ||| (if U.testBit m = true then c m else 0)
theorem kv_S_c {t : Nat → Nat} {U V : Nat} : ∀ m, (∀ j, j < m → U.testBit j = V.testBit j) → kv_S t U m = kv_S t V m := by
  intro m
  induction m with
  | zero => intro _; rfl
  | succ m ih =>
    intro h
    unfold kv_S
    rw [ih (fun j hj => h j (by omega)), h m (by omega)]
theorem kv_O_c {c : Nat → Nat} {U V : Nat} : ∀ m, (∀ j, j < m → U.testBit j = V.testBit j) → kv_O c U m = kv_O c V m := by
  intro m
  induction m with
  | zero => intro _; rfl
  | succ m ih =>
    intro h
    unfold kv_O
    rw [ih (fun j hj => h j (by omega)), h m (by omega)]
theorem kv_O_lt {c : Nat → Nat} {U : Nat} : ∀ m, (∀ j, j < m → c j < 256) → kv_O c U m < 256 := by
  intro m
  induction m with
  | zero => intro _; exact Nat.zero_lt_succ 255
  | succ m ih =>
    intro h
    unfold kv_O
    refine kv_orb (ih (fun j hj => h j (by omega))) ?_
    split
    · exact h m (by omega)
    · decide
theorem kv_S_lo {t : Nat → Nat} {U m : Nat} (h : U < 2 ^ m) : kv_S t U (m + 1) = kv_S t U m := by
  show kv_S t U m + (if U.testBit m = true then t m else 0) = _
  rw [Nat.testBit_lt_two_pow h]
  rfl
theorem kv_O_lo {c : Nat → Nat} {U m : Nat} (h : U < 2 ^ m) : kv_O c U (m + 1) = kv_O c U m := by
  show kv_O c U m ||| (if U.testBit m = true then c m else 0) = _
  rw [Nat.testBit_lt_two_pow h]
  exact Nat.or_zero _
theorem kv_S_hi {t : Nat → Nat} {U m : Nat} (h : U < 2 ^ m) : kv_S t (2 ^ m + U) (m + 1) = kv_S t U m + t m := by
  show kv_S t (2 ^ m + U) m + (if (2 ^ m + U).testBit m = true then t m else 0) = _
  rw [kv_S_c (V := U) m (fun j hj => Nat.testBit_two_pow_add_gt hj U), Nat.testBit_two_pow_add_eq, Nat.testBit_lt_two_pow h]
  rfl
theorem kv_O_hi {c : Nat → Nat} {U m : Nat} (h : U < 2 ^ m) : kv_O c (2 ^ m + U) (m + 1) = kv_O c U m ||| c m := by
  show kv_O c (2 ^ m + U) m ||| (if (2 ^ m + U).testBit m = true then c m else 0) = _
  rw [kv_O_c (V := U) m (fun j hj => Nat.testBit_two_pow_add_gt hj U), Nat.testBit_two_pow_add_eq, Nat.testBit_lt_two_pow h]
  rfl
theorem kv_Fgt {k : Nat} (h : k ≤ 66000) : k < kv_F := by
  rw [kv_FS]
  omega
theorem kv_ge256 {i : Nat} (h : i ≤ 256) : (256 : Int32) ≤ nI i ↔ 256 ≤ i := nI_leI (a := 256) (by decide) (by omega)
theorem kv_orI {a b : Nat} (ha : a < 256) (hb : b < 256) : (nI a ||| nI b) &&& 255 = nI (a ||| b) := by
  have h := kv_orb ha hb
  rw [kv_or32 (by omega) (by omega), pk_andN (by omega) 8 (by decide), Nat.mod_eq_of_lt h]
theorem kv_min {a b : Nat} (ha : a < 2 ^ 31) (hb : b < 2 ^ 31) : (if nI a < nI b then nI a else nI b) = nI (min a b) := by
  by_cases h : a < b
  · rw [if_pos ((nI_ltI ha hb).mpr h), Nat.min_eq_left (by omega)]
  · rw [if_neg (fun c => h ((nI_ltI ha hb).mp c)), Nat.min_eq_right (by omega)]
def kv_is (tk : Nat → Int32) (v : Nat → Nat) : Prop := ∀ S, S < 256 → tk S = nI (v S) ∧ v S ≤ 1000000
theorem kv_lo_b (mt mv : Nat → Int32) (m : Nat) (tk : Nat → Int32) (hm8 : m < 8) (k2) : pf_X0_layOpen_2b mt mv k2 (nI m) tk = kv_G (nI m) 8 (kv_T (mv (nI m).toNatClampNeg) (fun y_13 => if y_13 = 0 then k2 (nI m + 1) tk else kv_G (nI m) 8 (kv_T (mv (nI m).toNatClampNeg) (fun y_23 => kv_G (nI m) 8 (kv_T (mt (nI m).toNatClampNeg) (fun y_29 => kv_q1 (pf_X0_layOrNot y_23 y_29 tk) (fun u_30 => k2 (nI m + 1) u_30))))))) := by
  unfold pf_X0_layOpen_2b
  rw [if_neg (fun d => by have := (kv_ge8 (by omega)).mp d; omega)]
theorem kv_lo_c (mt mv : Nat → Int32) (m : Nat) (hm8 : m < 8) (z : Option (Nat → Int32)) (K : Int32 → Int32 → Option (Nat → Int32)) : kv_G (nI m) 8 (kv_T (mv (nI m).toNatClampNeg) (fun y_13 => if y_13 = 0 then z else kv_G (nI m) 8 (kv_T (mv (nI m).toNatClampNeg) (fun y_23 => kv_G (nI m) 8 (kv_T (mt (nI m).toNatClampNeg) (fun y_29 => K y_23 y_29)))))) = if mv m = 0 then z else K (mv m) (mt m) := by
  have hg : ∀ x : Option (Nat → Int32), kv_G (nI m) 8 x = x := fun x => kv_g8 (kv_ivN hm8) x
  simp only [hg]
  unfold kv_T
  rw [nI_clamp (show m < 2 ^ 31 by omega)]
theorem kv_lo_d (mt mv : Nat → Int32) (m : Nat) (tk : Nat → Int32) (hm8 : m < 8) (k2) : pf_X0_layOpen_2b mt mv k2 (nI m) tk = if mv m = 0 then k2 (nI m + 1) tk else kv_q1 (pf_X0_layOrNot (mv m) (mt m) tk) (fun u_30 => k2 (nI m + 1) u_30) := by
  rw [kv_lo_b mt mv m tk hm8 k2]
  exact kv_lo_c mt mv m hm8 (k2 (nI m + 1) tk) (fun a b => kv_q1 (pf_X0_layOrNot a b tk) (fun u_30 => k2 (nI m + 1) u_30))
theorem kv_lo_q {α β : Type} {x : Option α} {a : α} (h : x = some a) (k : α → Option β) : kv_q1 x k = k a := by rw [h]; rfl
theorem q_lo25 (c t : Nat) (hc : c < 256) (ht : t ≤ 64) (old : Nat → Nat) : ∀ (k f i : Nat) (tk : Nat → Int32) (v : Nat → Nat), i + k = 256 → k < f → kv_is tk v → (∀ S, S < 256 → ∀ x, v S ≤ x ↔ (old S ≤ x ∨ ∃ a, a < i ∧ a ||| c = S ∧ old a + t ≤ x)) →
    ∃ (tk' : Nat → Int32) (v' : Nat → Nat), pf_X0_layOrNot_2 (nI c) (nI t) f (nI i) tk = some tk' ∧ kv_is tk' v' ∧ ∀ S, S < 256 → ∀ x, v' S ≤ x ↔ (old S ≤ x ∨ ∃ a, a < 256 ∧ a ||| c = S ∧ old a + t ≤ x) := by
  intro k
  induction k with
  | zero =>
    intro f i tk v hi hf hv hI
    obtain ⟨f, rfl⟩ : ∃ z, f = z + 1 := ⟨f - 1, by omega⟩
    refine ⟨tk, v, ?_, hv, ?_⟩
    · show pf_X0_layOrNot_2b (nI c) (nI t) (pf_X0_layOrNot_2 (nI c) (nI t) f) (nI i) tk = _
      unfold pf_X0_layOrNot_2b
      rw [if_pos ((kv_ge256 (by omega)).mpr (by omega))]
    · rw [show i = 256 by omega] at hI
      exact hI
  | succ k ih =>
    intro f i tk v hi hf hv hI
    obtain ⟨f, rfl⟩ : ∃ z, f = z + 1 := ⟨f - 1, by omega⟩
    have hi8 : i < 256 := by omega
    have hw : i ||| c < 256 := kv_orb hi8 hc
    have e0 : pf_X0_layOrNot_2 (nI c) (nI t) (f + 1) (nI i) tk = pf_X0_layOrNot_2b (nI c) (nI t) (pf_X0_layOrNot_2 (nI c) (nI t) f) (nI i) tk := rfl
    have hgw : ∀ z : Option (Nat → Int32), kv_G (nI (i ||| c)) 256 z = z := fun z => kv_gN hw (by omega) z
    have hgi : ∀ z : Option (Nat → Int32), kv_G (nI i) 256 z = z := fun z => kv_gN hi8 (by omega) z
    obtain ⟨v1, v2⟩ := hv i hi8
    obtain ⟨w1, w2⟩ := hv _ hw
    rw [e0]
    unfold pf_X0_layOrNot_2b
    rw [if_neg (fun d => by have := (kv_ge256 (by omega)).mp d; omega)]
    simp only [kv_T, kv_orI hi8 hc, hgw, hgi, nI_clamp (show i ||| c < 2 ^ 31 by omega), nI_clamp (show i < 2 ^ 31 by omega), v1, w1, nI_add, nI_1, kv_min (show v i + t < 2 ^ 31 by omega) (show v (i ||| c) < 2 ^ 31 by omega)]
    refine ih f (i + 1) _ (fun S => if S = i ||| c then min (v i + t) (v (i ||| c)) else v S) (by omega) (by omega) (fun S hS => ?_) (fun S hS x => ?_)
    · unfold upd
      by_cases e : S = i ||| c
      · simp only [if_pos e]
        exact ⟨trivial, Nat.le_trans (Nat.min_le_right _ _) w2⟩
      · simp only [if_neg e]
        exact hv S hS
    · by_cases e : S = i ||| c
      · simp only [if_pos e]
        subst e
        have hm : min (v i + t) (v (i ||| c)) ≤ x ↔ v i + t ≤ x ∨ v (i ||| c) ≤ x := by omega
        rw [hm, hI _ hw x]
        constructor
        · rintro (h | h | ⟨a, h1, h2, h3⟩)
          · rcases (hI i hi8 (x - t)).mp (by omega) with h4 | ⟨a, h4, h5, h6⟩
            · exact Or.inr ⟨i, by omega, rfl, by omega⟩
            · refine Or.inr ⟨a, by omega, ?_, by omega⟩
              rw [← h5, Nat.or_assoc, Nat.or_self]
          · exact Or.inl h
          · exact Or.inr ⟨a, by omega, h2, h3⟩
        · rintro (h | ⟨a, h1, h2, h3⟩)
          · exact Or.inr (Or.inl h)
          · by_cases h4 : a = i
            · subst h4
              have := (hI a hi8 (old a)).mpr (Or.inl (Nat.le_refl _))
              exact Or.inl (by omega)
            · exact Or.inr (Or.inr ⟨a, by omega, h2, h3⟩)
      · simp only [if_neg e]
        rw [hI S hS x]
        constructor
        · rintro (h | ⟨a, h1, h2, h3⟩)
          · exact Or.inl h
          · exact Or.inr ⟨a, by omega, h2, h3⟩
        · rintro (h | ⟨a, h1, h2, h3⟩)
          · exact Or.inl h
          · refine Or.inr ⟨a, ?_, h2, h3⟩
            have : a ≠ i := fun d => e (by rw [← h2, d])
            omega
theorem q_lon (c t : Nat) (hc : c < 256) (ht : t ≤ 64) (tk : Nat → Int32) (v : Nat → Nat) (hv : kv_is tk v) : ∃ (tk' : Nat → Int32) (v' : Nat → Nat), pf_X0_layOrNot (nI c) (nI t) tk = some tk' ∧ kv_is tk' v' ∧ ∀ S, S < 256 → ∀ x, v' S ≤ x ↔ (v S ≤ x ∨ ∃ a, a < 256 ∧ a ||| c = S ∧ v a + t ≤ x) := by
  have h := q_lo25 c t hc ht v 256 kv_F 0 tk v (by omega) (kv_Fgt (by omega)) hv (fun S hS x => ⟨Or.inl, fun h => h.elim id (fun ⟨a, h, _⟩ => absurd h (Nat.not_lt_zero a))⟩)
  rw [nI_0] at h
  exact h
theorem q_lo2 (mt mv : Nat → Int32) (t c : Nat → Nat) (hm : ∀ j, j < 8 → mt j = nI (t j) ∧ t j ≤ 64 ∧ mv j = nI (c j) ∧ c j < 256) (old : Nat → Nat) : ∀ (k f m : Nat) (tk : Nat → Int32) (v : Nat → Nat), m + k = 8 → k < f → kv_is tk v → (∀ S, S < 256 → ∀ x, v S ≤ x ↔ ∃ a U, a < 256 ∧ U < 2 ^ m ∧ old a + kv_S t U m ≤ x ∧ a ||| kv_O c U m = S) →
    ∃ (tk' : Nat → Int32) (v' : Nat → Nat), pf_X0_layOpen_2 mt mv f (nI m) tk = some tk' ∧ kv_is tk' v' ∧ ∀ S, S < 256 → ∀ x, v' S ≤ x ↔ ∃ a U, a < 256 ∧ U < 256 ∧ old a + kv_S t U 8 ≤ x ∧ a ||| kv_O c U 8 = S := by
  intro k
  induction k with
  | zero =>
    intro f m tk v hi hf hv hI
    obtain ⟨f, rfl⟩ : ∃ z, f = z + 1 := ⟨f - 1, by omega⟩
    refine ⟨tk, v, ?_, hv, ?_⟩
    · rw [pf_X0_layOpen_2.eq_2]
      unfold pf_X0_layOpen_2b
      rw [if_pos ((kv_ge8 (by omega)).mpr (by omega))]
    · have e : m = 8 := by omega
      rw [e] at hI
      exact fun S hS x => by rw [hI S hS x]
  | succ k ih =>
    intro f m tk v hi hf hv hI
    obtain ⟨f, rfl⟩ : ∃ z, f = z + 1 := ⟨f - 1, by omega⟩
    have hm8 : m < 8 := by omega
    obtain ⟨m1, m2, m3, m4⟩ := hm m hm8
    have step : pf_X0_layOpen_2 mt mv (f + 1) (nI m) tk = if nI (c m) = 0 then pf_X0_layOpen_2 mt mv f (nI m + 1) tk else kv_q1 (pf_X0_layOrNot (nI (c m)) (nI (t m)) tk) (fun u_30 => pf_X0_layOpen_2 mt mv f (nI m + 1) u_30) := by
      rw [pf_X0_layOpen_2.eq_2, kv_lo_d mt mv m tk hm8, m1, m3]
    have hp : 2 ^ (m + 1) = 2 ^ m + 2 ^ m := by rw [Nat.pow_succ]; omega
    rw [step]
    by_cases hc0 : c m = 0
    · rw [if_pos (show nI (c m) = 0 by rw [hc0, nI_0]), nI_1]
      refine ih f (m + 1) tk v (by omega) (by omega) hv (fun S hS x => ?_)
      rw [hI S hS x]
      constructor
      · rintro ⟨a, U, g1, g2, g3, g4⟩
        exact ⟨a, U, g1, by omega, by rw [kv_S_lo g2]; exact g3, by rw [kv_O_lo g2]; exact g4⟩
      · rintro ⟨a, U, g1, g2, g3, g4⟩
        by_cases hU : U < 2 ^ m
        · rw [kv_S_lo hU] at g3
          rw [kv_O_lo hU] at g4
          exact ⟨a, U, g1, hU, g3, g4⟩
        · obtain ⟨W, rfl⟩ : ∃ W, U = 2 ^ m + W := ⟨U - 2 ^ m, by omega⟩
          have hW : W < 2 ^ m := by omega
          rw [kv_S_hi hW] at g3
          rw [kv_O_hi hW, hc0, Nat.or_zero] at g4
          exact ⟨a, W, g1, hW, by omega, g4⟩
    have hcn : ¬ nI (c m) = 0 := fun d => hc0 ((nI_eq (by omega) (by omega)).mp (d.trans nI_0.symm))
    obtain ⟨tk', v', h1, h2, h3⟩ := q_lon (c m) (t m) m4 m2 tk v hv
    rw [if_neg hcn, kv_lo_q h1, nI_1]
    refine ih f (m + 1) tk' v' (by omega) (by omega) h2 (fun S hS x => ?_)
    rw [h3 S hS x]
    constructor
    · rintro (h | ⟨a, g1, g2, g3⟩)
      · obtain ⟨a, U, g1, g2, g3, g4⟩ := (hI S hS x).mp h
        exact ⟨a, U, g1, by omega, by rw [kv_S_lo g2]; exact g3, by rw [kv_O_lo g2]; exact g4⟩
      · obtain ⟨b, U, d1, d2, d3, d4⟩ := (hI a g1 (x - t m)).mp (by omega)
        refine ⟨b, 2 ^ m + U, d1, by omega, by rw [kv_S_hi d2]; omega, ?_⟩
        rw [kv_O_hi d2, ← Nat.or_assoc, d4, g2]
    · rintro ⟨a, U, g1, g2, g3, g4⟩
      by_cases hU : U < 2 ^ m
      · rw [kv_S_lo hU] at g3
        rw [kv_O_lo hU] at g4
        exact Or.inl ((hI S hS x).mpr ⟨a, U, g1, hU, g3, g4⟩)
      · obtain ⟨W, rfl⟩ : ∃ W, U = 2 ^ m + W := ⟨U - 2 ^ m, by omega⟩
        have hW : W < 2 ^ m := by omega
        rw [kv_S_hi hW] at g3
        rw [kv_O_hi hW, ← Nat.or_assoc] at g4
        have hl : a ||| kv_O c W m < 256 := kv_orb g1 (kv_O_lt m (fun j hj => (hm j (by omega)).2.2.2))
        refine Or.inr ⟨a ||| kv_O c W m, hl, g4, ?_⟩
        have := (hI _ hl (x - t m)).mpr ⟨a, W, g1, hW, by omega, rfl⟩
        omega
theorem q_lo (mt mv : Nat → Int32) (t c : Nat → Nat) (hm : ∀ j, j < 8 → mt j = nI (t j) ∧ t j ≤ 64 ∧ mv j = nI (c j) ∧ c j < 256) (tk : Nat → Int32) (v : Nat → Nat) (hv : kv_is tk v) :
    ∃ (tk' : Nat → Int32) (v' : Nat → Nat), pf_X0_layOpen mt mv tk = some tk' ∧ kv_is tk' v' ∧ ∀ S, S < 256 → ∀ x, v' S ≤ x ↔ ∃ a U, a < 256 ∧ U < 256 ∧ v a + kv_S t U 8 ≤ x ∧ a ||| kv_O c U 8 = S :=
  q_lo2 mt mv t c hm v 8 kv_F 0 tk v rfl (by decide) hv (fun S hS x => ⟨fun h => ⟨S, 0, hS, by decide, h, Nat.or_zero S⟩, fun ⟨a, U, g1, g2, g3, g4⟩ => by
    have e : a = S := (Nat.or_zero a).symm.trans g4
    rw [← e]; exact g3⟩)
end KVP5


section KVP6
theorem kv_cw_b (cnt vi i : Nat) (k2 : Int32 → (Nat → Int32) → Option (Nat → Int32)) (tk : Nat → Int32) (hi : i < 256) (hc : cnt ≤ 500) (hv : tk i = nI vi) (hb : vi ≤ 1000000) : pf_X0_closeWithin_2b (nI cnt) k2 (nI i) tk = k2 (nI (i + 1)) (upd tk i (nI (if vi ≤ cnt then 0 else 1000000))) := by
  unfold pf_X0_closeWithin_2b pf_X0_closeWithin_30
  rw [if_neg (fun d => by have := (kv_ge256 (by omega)).mp d; omega), kv_gN hi (by omega)]
  simp only [kv_T, nI_clamp (show i < 2 ^ 31 by omega), hv, kv_gN hi (show i < 2 ^ 31 by omega), nI_1]
  by_cases h : vi ≤ cnt
  · rw [if_neg (fun c => by have := (nI_ltI (by omega) (by omega)).mp c; omega), if_pos h]
    rfl
  · rw [if_pos ((nI_ltI (by omega) (by omega)).mpr (by omega)), if_neg h]
    rfl
theorem q_cw (cnt : Nat) (v : Nat → Nat) (hc : cnt ≤ 500) (hb : ∀ S, S < 256 → v S ≤ 1000000) : ∀ (k f i : Nat) (tk : Nat → Int32), i + k = 256 → k < f → (∀ S, S < 256 → tk S = nI (if S < i then (if v S ≤ cnt then 0 else 1000000) else v S)) → ∃ tk', pf_X0_closeWithin_2 (nI cnt) f (nI i) tk = some tk' ∧ ∀ S, S < 256 → tk' S = nI (if v S ≤ cnt then 0 else 1000000) := by
  intro k
  induction k with
  | zero =>
    intro f i tk hi hf hI
    obtain ⟨f, rfl⟩ : ∃ z, f = z + 1 := ⟨f - 1, by omega⟩
    refine ⟨tk, ?_, fun S hS => ?_⟩
    · rw [pf_X0_closeWithin_2.eq_2]
      unfold pf_X0_closeWithin_2b
      rw [if_pos ((kv_ge256 (by omega)).mpr (by omega))]
    · rw [hI S hS, if_pos (by omega)]
  | succ k ih =>
    intro f i tk hi hf hI
    obtain ⟨f, rfl⟩ : ∃ z, f = z + 1 := ⟨f - 1, by omega⟩
    have hi2 : i < 256 := by omega
    have hti := hI i hi2
    rw [if_neg (Nat.lt_irrefl i)] at hti
    rw [pf_X0_closeWithin_2.eq_2, kv_cw_b cnt (v i) i _ tk hi2 hc hti (hb i hi2)]
    refine ih f (i + 1) _ (by omega) (by omega) (fun S hS => ?_)
    unfold upd
    by_cases e : S = i
    · rw [if_pos e, e, if_pos (show i < i + 1 by omega)]
    · rw [if_neg e, hI S hS]
      by_cases g : S < i
      · rw [if_pos g, if_pos (show S < i + 1 by omega)]
      · rw [if_neg g, if_neg (show ¬ S < i + 1 by omega)]
theorem q_close {cnt : Nat} {tk : Nat → Int32} {v : Nat → Nat} (hc : cnt ≤ 500) (hv : kv_is tk v) : ∃ tk', pf_X0_closeWithin (nI cnt) tk = some tk' ∧ kv_is tk' (fun S => if v S ≤ cnt then 0 else 1000000) := by
  obtain ⟨tk', h1, h2⟩ := q_cw cnt v hc (fun S hS => (hv S hS).2) 256 kv_F 0 tk (by omega) (kv_Fgt (by omega)) (fun S hS => by rw [if_neg (Nat.not_lt_zero S)]; exact (hv S hS).1)
  refine ⟨tk', h1, fun S hS => ⟨h2 S hS, ?_⟩⟩
  show (if v S ≤ cnt then 0 else 1000000) ≤ 1000000
  split <;> omega
theorem kv_wg_b (p0 p1 : Int32) (w m i : Nat) (k2 : Int32 → Int32 → (Nat → Int32) → Int32 → Option ((Nat → Int32) × Int32)) (sw : Nat → Int32) (hv : Int32) (hm : m < 8) (hi : i < 2 ^ m) : pf_X0_weigh_23b p0 p1 (nI w) k2 (nI (2 ^ m)) (nI i) sw hv = k2 (nI (2 ^ m)) (nI (i + 1)) (upd sw (2 ^ m + i) (sw i + nI w)) hv := by
  have hp := kv_p2 hm
  have hor : 2 ^ m ||| i = 2 ^ m + i := by
    have h := Nat.two_pow_add_eq_or_of_lt hi 1
    rw [Nat.mul_one] at h
    exact h.symm
  have hlt : 2 ^ m + i < 256 := by rw [← hor]; exact kv_orb hp (by omega)
  have hor2 : nI (2 ^ m) ||| nI i = nI (2 ^ m + i) := by rw [kv_or32 (by omega) (by omega), hor]
  unfold pf_X0_weigh_23b
  rw [if_neg (fun d => by have := (nI_leI (by omega) (by omega)).mp d; omega), hor2, if_neg (fun d => by have := (kv_ge256 (by omega)).mp d; omega), kv_gN (show i < 256 by omega) (by omega)]
  simp only [kv_T, nI_clamp (show i < 2 ^ 31 by omega), nI_clamp (show 2 ^ m + i < 2 ^ 31 by omega), kv_gN hlt (show 2 ^ m + i < 2 ^ 31 by omega), nI_1]
theorem q_wg (p0 p1 : Int32) (w : Nat → Nat) (m : Nat) (hv : Int32) (hm : m < 8) : ∀ (k f i : Nat) (sw : Nat → Int32), i + k = 2 ^ m → k < f → (∀ U, U < 2 ^ m → sw U = nI (kv_S w U m)) → (∀ U, U < i → sw (2 ^ m + U) = nI (kv_S w U m + w m)) → ∃ sw', pf_X0_weigh_23 p0 p1 (nI (w m)) f (nI (2 ^ m)) (nI i) sw hv = some (sw', hv) ∧ (∀ U, U < 2 ^ m → sw' U = nI (kv_S w U m)) ∧ (∀ U, U < 2 ^ m → sw' (2 ^ m + U) = nI (kv_S w U m + w m)) := by
  intro k
  induction k with
  | zero =>
    intro f i sw hi hf h1 h2
    obtain ⟨f, rfl⟩ : ∃ z, f = z + 1 := ⟨f - 1, by omega⟩
    have hp := kv_p2 hm
    refine ⟨sw, ?_, h1, fun U hU => h2 U (by omega)⟩
    rw [pf_X0_weigh_23.eq_2]
    unfold pf_X0_weigh_23b
    rw [if_pos ((nI_leI (by omega) (by omega)).mpr (by omega))]
  | succ k ih =>
    intro f i sw hi hf h1 h2
    obtain ⟨f, rfl⟩ : ∃ z, f = z + 1 := ⟨f - 1, by omega⟩
    have hi2 : i < 2 ^ m := by omega
    rw [pf_X0_weigh_23.eq_2, kv_wg_b p0 p1 (w m) m i _ sw hv hm hi2]
    refine ih f (i + 1) _ (by omega) (by omega) (fun U hU => ?_) (fun U hU => ?_)
    · unfold upd
      rw [if_neg (by omega)]
      exact h1 U hU
    · unfold upd
      by_cases e : U = i
      · rw [if_pos (by omega), h1 i hi2, nI_add, e]
      · rw [if_neg (by omega)]
        exact h2 U (by omega)
theorem kv_wgh (p1 w : Int32) (m : Nat) (sw : Nat → Int32) (hv : Int32) (hm : m < 8) : pf_X0_weigh (nI m) p1 w sw hv = if p1 = 0 then pf_X0_weigh_23 (nI m) p1 w kv_F (nI (2 ^ m)) 0 sw hv else pf_X0_weigh_23 (nI m) p1 w kv_F (nI (2 ^ m)) 0 sw (hv ||| nI (2 ^ m)) := by
  simp only [pf_X0_weigh, pf_X0_weigh_20, kv_T, kv_bit hm]
theorem q_weigh (p1 : Int32) (w : Nat → Nat) (m h : Nat) (b : Bool) (hm : m < 8) (hh : h < 256) (hp1 : p1 = if b = true then 1 else 0) (sw : Nat → Int32) (h1 : ∀ U, U < 2 ^ m → sw U = nI (kv_S w U m)) : ∃ sw', pf_X0_weigh (nI m) p1 (nI (w m)) sw (nI h) = some (sw', nI (if b = true then h ||| 2 ^ m else h)) ∧ ∀ U, U < 2 ^ (m + 1) → sw' U = nI (kv_S w U (m + 1)) := by
  have hp := kv_p2 hm
  have key : ∀ hv : Int32, ∃ sw', pf_X0_weigh_23 (nI m) p1 (nI (w m)) kv_F (nI (2 ^ m)) (nI 0) sw hv = some (sw', hv) ∧ ∀ U, U < 2 ^ (m + 1) → sw' U = nI (kv_S w U (m + 1)) := by
    intro hv
    obtain ⟨sw', g1, g2, g3⟩ := q_wg (nI m) p1 w m hv hm (2 ^ m) kv_F 0 sw (by omega) (kv_Fgt (by omega)) h1 (fun U hU => absurd hU (Nat.not_lt_zero U))
    refine ⟨sw', g1, fun U hU => ?_⟩
    have hq : 2 ^ (m + 1) = 2 ^ m + 2 ^ m := by rw [Nat.pow_succ]; omega
    by_cases c : U < 2 ^ m
    · rw [g2 U c, kv_S_lo c]
    · obtain ⟨V, rfl⟩ : ∃ V, U = 2 ^ m + V := ⟨U - 2 ^ m, by omega⟩
      rw [g3 V (by omega), kv_S_hi (by omega)]
  rw [kv_wgh p1 (nI (w m)) m sw (nI h) hm]
  cases b with
  | true =>
    obtain ⟨sw', g1, g2⟩ := key (nI h ||| nI (2 ^ m))
    refine ⟨sw', ?_, g2⟩
    rw [if_pos rfl] at hp1
    rw [if_neg (show ¬ (p1 = 0) by rw [hp1]; decide), if_pos rfl, ← nI_0]
    rw [kv_or32 (by omega) (by omega)] at g1 ⊢
    exact g1
  | false =>
    obtain ⟨sw', g1, g2⟩ := key (nI h)
    refine ⟨sw', ?_, g2⟩
    rw [if_neg (show ¬ (false = true) by decide)] at hp1
    rw [if_pos hp1, if_neg (show ¬ (false = true) by decide), ← nI_0]
    exact g1
end KVP6


section KVP7
def kv_wN (kc : Nat → Int32) (fo : Nat → Nat → Int32) (kp : Nat → Int32) (p i : Nat) : Nat := (kv_wt kc fo kp i p).toInt.toNat
theorem kv_wNs {kc : Nat → Int32} {fo : Nat → Nat → Int32} {kp : Nat → Int32} {p i : Nat} (h1 : 1 ≤ kc i) (h2 : kc i ≤ 64) (h3 : 0 ≤ kp p) (h4 : kp p ≤ 1000) : kv_wt kc fo kp i p = nI (kv_wN kc fo kp p i) ∧ kv_wN kc fo kp p i ≤ 64000 := by
  have key : ∃ w : Nat, w ≤ 64000 ∧ kv_wt kc fo kp i p = nI w := by
    unfold kv_wt
    split
    · exact ⟨0, by omega, rfl⟩
    · obtain ⟨a, a1, a2⟩ := nI_of2 (n := 64) kv_i64 (fun c => by rw [Int32.lt_iff_toInt_lt, kv_i0] at c; rw [Int32.le_iff_toInt_le, kv_i1] at h1; omega) h2
      obtain ⟨b, b1, b2⟩ := nI_of2 (n := 1000) kv_i1000 (Int32.not_lt.mpr h3) h4
      refine ⟨a * b, ?_, by rw [a2, b2, pk_mul]⟩
      exact Nat.mul_le_mul a1 b1
  obtain ⟨w, w1, w2⟩ := key
  have e : kv_wN kc fo kp p i = w := by
    unfold kv_wN
    rw [w2, nI_toInt (by omega)]
    rfl
  rw [e]
  exact ⟨w2, w1⟩
theorem kv_S_le {w : Nat → Nat} {U : Nat} (h : ∀ j, j < 8 → w j ≤ 64000) : ∀ m, m ≤ 8 → kv_S w U m ≤ 64000 * m := by
  intro m
  induction m with
  | zero => intro _; exact Nat.le_refl 0
  | succ m ih =>
    intro hm
    have h1 := ih (by omega)
    have h2 := h m (by omega)
    unfold kv_S
    split <;> omega
theorem q_wt2 (kc : Nat → Int32) (fo : Nat → Nat → Int32) (kp : Nat → Int32) (m : Nat) (p0 : Int32) (hm : m < 8) (h1 : kv_iv p0 0 3 = true) : pf_X2_weightOn kc fo kp (nI m) p0 = some (kv_wt kc fo kp m p0.toNatClampNeg) := by
  have h0 := kv_ivN hm
  unfold pf_X2_weightOn kv_wt kv_T
  rw [kv_g8 h0, kv_g4 h1, nI_clamp (show m < 2 ^ 31 by omega)]
  by_cases c : fo m p0.toNatClampNeg ≤ 0
  · simp only [if_pos c]
  · simp only [if_neg c]
    rw [kv_g8 h0, kv_g4 h1]
theorem kv_sl_b (kc : Nat → Int32) (fo : Nat → Nat → Int32) (kp : Nat → Int32) (p0 : Int32) (m w : Nat) (k2 : Int32 → (Nat → Int32) → Int32 → (Nat → Int32) → Option ((Nat → Int32) × Int32 × (Nat → Int32))) (sw sw' : Nat → Int32) (hv H' : Int32) (tk : Nat → Int32) (hm : m < 8) (h1 : kv_iv p0 0 3 = true) (hw : kv_wt kc fo kp m p0.toNatClampNeg = nI w) (hg : pf_X0_weigh (nI m) (if fo m p0.toNatClampNeg ≤ 0 then 0 else 1) (nI w) sw hv = some (sw', H')) : pf_X2_startLayings_9b kc fo kp p0 k2 (nI m) sw hv tk = k2 (nI (m + 1)) sw' H' tk := by
  unfold pf_X2_startLayings_9b pf_X2_startLayings_36
  rw [if_neg (fun d => by have := (kv_ge8 (by omega)).mp d; omega), kv_g8 (kv_ivN hm), kv_g4 h1, q_wt2 kc fo kp m p0 hm h1, hw]
  simp only [kv_T, nI_clamp (show m < 2 ^ 31 by omega), nI_1, kv_q1]
  by_cases c : fo m p0.toNatClampNeg ≤ 0
  · rw [if_pos c] at hg ⊢
    rw [hg]
    rfl
  · rw [if_neg c] at hg ⊢
    rw [hg]
    rfl
theorem q_sl9 (kc : Nat → Int32) (fo : Nat → Nat → Int32) (kp : Nat → Int32) (p0 : Int32) (tk : Nat → Int32) (h1 : kv_iv p0 0 3 = true) (hK : ∀ i, i < 8 → 1 ≤ kc i ∧ kc i ≤ 64) (hq : 0 ≤ kp p0.toNatClampNeg ∧ kp p0.toNatClampNeg ≤ 1000) : ∀ (k f m h : Nat) (sw : Nat → Int32), m + k = 8 → k < f → h < 256 → (∀ U, U < 2 ^ m → sw U = nI (kv_S (kv_wN kc fo kp p0.toNatClampNeg) U m)) → ∃ sw', pf_X2_startLayings_9 kc fo kp p0 f (nI m) sw (nI h) tk = some (sw', nI (kv_or (fun j => !decide (fo j p0.toNatClampNeg ≤ 0)) m k h), tk) ∧ ∀ U, U < 256 → sw' U = nI (kv_S (kv_wN kc fo kp p0.toNatClampNeg) U 8) := by
  intro k
  induction k with
  | zero =>
    intro f m h sw hi hf hh hI
    obtain ⟨f, rfl⟩ : ∃ z, f = z + 1 := ⟨f - 1, by omega⟩
    refine ⟨sw, ?_, fun U hU => ?_⟩
    · rw [pf_X2_startLayings_9.eq_2]
      unfold pf_X2_startLayings_9b
      rw [if_pos ((kv_ge8 (by omega)).mpr (by omega))]
      rfl
    · have e : m = 8 := by omega
      rw [e] at hI
      exact hI U hU
  | succ k ih =>
    intro f m h sw hi hf hh hI
    obtain ⟨f, rfl⟩ : ∃ z, f = z + 1 := ⟨f - 1, by omega⟩
    have hm : m < 8 := by omega
    obtain ⟨a1, a2⟩ := hK m hm
    obtain ⟨w1, w2⟩ := kv_wNs (fo := fo) a1 a2 hq.1 hq.2
    obtain ⟨sw', g1, g2⟩ := q_weigh (if fo m p0.toNatClampNeg ≤ 0 then 0 else 1) (kv_wN kc fo kp p0.toNatClampNeg) m h (!decide (fo m p0.toNatClampNeg ≤ 0)) hm hh (by by_cases c : fo m p0.toNatClampNeg ≤ 0 <;> simp [c]) sw hI
    rw [pf_X2_startLayings_9.eq_2, kv_sl_b kc fo kp p0 m _ _ sw sw' (nI h) _ tk hm h1 w1 g1]
    refine ih f (m + 1) _ sw' (by omega) (by omega) ?_ g2
    split
    · exact kv_orb hh (kv_p2 hm)
    · exact hh
/-- the machines that have the product -/
def kv_hs (fo : Nat → Nat → Int32) (p : Nat) : Nat := kv_or (fun j => !decide (fo j p ≤ 0)) 0 8 0
theorem kv_hs_lt (fo : Nat → Nat → Int32) (p : Nat) : kv_hs fo p < 256 := kv_or_lt _ 8 0 0 rfl (by decide)
def kv_v0 (S : Nat) : Nat := if S = 0 then 0 else 1000000
theorem q_start (kc : Nat → Int32) (fo : Nat → Nat → Int32) (kp : Nat → Int32) (p0 : Int32) (sw : Nat → Int32) (hv : Int32) (tk : Nat → Int32) (h1 : kv_iv p0 0 3 = true) (hK : ∀ i, i < 8 → 1 ≤ kc i ∧ kc i ≤ 64) (hq : 0 ≤ kp p0.toNatClampNeg ∧ kp p0.toNatClampNeg ≤ 1000) (h0 : sw 0 = 0) : ∃ sw' tk', pf_X2_startLayings kc fo kp p0 sw hv tk = some (sw', nI (kv_hs fo p0.toNatClampNeg), tk') ∧ (∀ U, U < 256 → sw' U = nI (kv_S (kv_wN kc fo kp p0.toNatClampNeg) U 8)) ∧ kv_is tk' kv_v0 := by
  have hc : pf_X0_clearAll hv tk = some (0, upd (kv_fill tk 256 1000000) 0 0) := by
    unfold pf_X0_clearAll
    simp only [kv_T]
    rw [kv_gT (n := 256) (x := 0) (by decide) (by decide)]
    rfl
  obtain ⟨sw', g1, g2⟩ := q_sl9 kc fo kp p0 (upd (kv_fill tk 256 1000000) 0 0) h1 hK hq 8 kv_F 0 0 sw (by omega) (kv_Fgt (by omega)) (by decide) (fun U hU => by
    have : U = 0 := by simpa using hU
    rw [this, h0]; rfl)
  refine ⟨sw', upd (kv_fill tk 256 1000000) 0 0, ?_, g2, ?_⟩
  · unfold pf_X2_startLayings
    rw [hc]
    exact g1
  · intro S hS
    unfold upd kv_fill kv_v0
    by_cases e : S = 0
    · rw [if_pos e, if_pos e]; exact ⟨rfl, by decide⟩
    · rw [if_neg e, if_neg e, if_pos hS]; exact ⟨rfl, Nat.le_refl _⟩
/-- what a right takes on a machine -/
def kv_tk (kc qm : Nat → Int32) (r j : Nat) : Nat := if qm r = 1 then max 4 (kc j).toInt.toNat else 1
theorem kv_tk_le {kc qm : Nat → Int32} {r j : Nat} (h : kc j ≤ 64) : kv_tk kc qm r j ≤ 64 ∧ 1 ≤ kv_tk kc qm r j := by
  rw [Int32.le_iff_toInt_le, kv_i64] at h
  unfold kv_tk
  split <;> omega
theorem kv_tk_n {kc : Nat → Int32} {j : Nat} (h0 : 1 ≤ kc j) (h : kc j ≤ 64) : kc j = nI (kc j).toInt.toNat ∧ (kc j).toInt.toNat ≤ 64 := by
  obtain ⟨a, a1, a2⟩ := nI_of2 (n := 64) kv_i64 (fun c => by rw [Int32.lt_iff_toInt_lt, kv_i0] at c; rw [Int32.le_iff_toInt_le, kv_i1] at h0; omega) h
  rw [a2, nI_toInt (by omega)]
  exact ⟨rfl, a1⟩
theorem q_to (kc : Nat → Int32) (n : Nat) (qm : Nat → Int32) (r i : Nat) (hi : i < 8) (h0 : 1 ≤ kc i) (h : kc i ≤ 64) : pf_X2_takenOn kc n qm r (nI i) = some (nI (kv_tk kc qm r i)) := by
  obtain ⟨a1, a2⟩ := kv_tk_n h0 h
  unfold pf_X2_takenOn kv_tk
  by_cases c : qm r = 1
  · rw [if_pos c, if_pos c, kv_g8 (kv_ivN hi)]
    simp only [kv_T, nI_clamp (show i < 2 ^ 31 by omega)]
    by_cases d : 4 < (kc i).toInt.toNat
    · rw [if_pos (by rw [a1]; exact nI_lt (a := 4) d (by omega)), Nat.max_eq_right (by omega), ← a1]
    · rw [if_neg (by rw [a1]; exact nI_nlt (a := 4) (by omega) (by omega)), Nat.max_eq_left (by omega)]
      rfl
  · rw [if_neg c, if_neg c]
    rfl
theorem q_tu (kc : Nat → Int32) (fo : Nat → Nat → Int32) (n : Nat) (qp qm qv hs : Nat → Int32) (r : Nat) (hq : kv_iv (qp r) 0 3 = true) (hK : ∀ i, i < 8 → 1 ≤ kc i ∧ kc i ≤ 64) : ∀ (k f i : Nat) (mt mv : Nat → Int32), i + k = 8 → k < f → (∀ j, j < i → mt j = nI (kv_tk kc qm r j) ∧ mv j = nI (kv_cv fo qp qm qv hs r (nI j))) → ∃ mt' mv', pf_X2_takeUp_2 kc fo n qp qm qv r hs f (nI i) mt mv = some (mt', mv') ∧ ∀ j, j < 8 → mt' j = nI (kv_tk kc qm r j) ∧ mv' j = nI (kv_cv fo qp qm qv hs r (nI j)) := by
  intro k
  induction k with
  | zero =>
    intro f i mt mv hi hf hI
    obtain ⟨f, rfl⟩ : ∃ z, f = z + 1 := ⟨f - 1, by omega⟩
    refine ⟨mt, mv, ?_, fun j hj => hI j (by omega)⟩
    rw [pf_X2_takeUp_2.eq_2]
    unfold pf_X2_takeUp_2b
    rw [if_pos ((kv_ge8 (by omega)).mpr (by omega))]
  | succ k ih =>
    intro f i mt mv hi hf hI
    obtain ⟨f, rfl⟩ : ∃ z, f = z + 1 := ⟨f - 1, by omega⟩
    have hi8 : i < 8 := by omega
    have step : ∀ k2, pf_X2_takeUp_2b kc fo n qp qm qv r hs k2 (nI i) mt mv = k2 (nI (i + 1)) (upd mt i (nI (kv_tk kc qm r i))) (upd mv i (nI (kv_cv fo qp qm qv hs r (nI i)))) := by
      intro k2
      unfold pf_X2_takeUp_2b
      rw [if_neg (fun d => by have := (kv_ge8 (by omega)).mp d; omega), q_to kc n qm r i hi8 (hK i hi8).1 (hK i hi8).2, q_cv2 fo n qp qm qv hs r (nI i) hq]
      simp only [kv_q1, kv_T, kv_g8 (kv_ivN hi8), nI_clamp (show i < 2 ^ 31 by omega), nI_1]
    rw [pf_X2_takeUp_2.eq_2, step]
    refine ih f (i + 1) _ _ (by omega) (by omega) (fun j hj => ?_)
    unfold upd
    by_cases e : j = i
    · rw [if_pos e, if_pos e, e]; exact ⟨rfl, rfl⟩
    · rw [if_neg e, if_neg e]; exact hI j (by omega)
theorem q_take (kc : Nat → Int32) (fo : Nat → Nat → Int32) (n : Nat) (qp qm qv hs : Nat → Int32) (r : Nat) (mt mv : Nat → Int32) (hq : kv_iv (qp r) 0 3 = true) (hK : ∀ i, i < 8 → 1 ≤ kc i ∧ kc i ≤ 64) : ∃ mt' mv', pf_X2_takeUp kc fo n qp qm qv r hs mt mv = some (mt', mv') ∧ ∀ j, j < 8 → mt' j = nI (kv_tk kc qm r j) ∧ kv_tk kc qm r j ≤ 64 ∧ mv' j = nI (kv_cv fo qp qm qv hs r (nI j)) ∧ kv_cv fo qp qm qv hs r (nI j) < 256 := by
  obtain ⟨a, b, h1, h2⟩ := q_tu kc fo n qp qm qv hs r hq hK 8 kv_F 0 mt mv (by omega) (kv_Fgt (by omega)) (fun j hj => absurd hj (Nat.not_lt_zero j))
  exact ⟨a, b, h1, fun j hj => ⟨(h2 j hj).1, (kv_tk_le (hK j hj).2).1, (h2 j hj).2, kv_cv_lt _ _ _ _ _ _ _⟩⟩
end KVP7

