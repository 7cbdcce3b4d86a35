section KVP6
theorem kv_cw_b (cnt vi i : Nat) (k2 : Int32 → (Nat → Int32) → Option (Nat → Int32)) (tk : Nat → Int32) (hi : i < 256) (hc : cnt ≤ 500) (hv : tk i = nI vi) (hb : vi ≤ 1000000) : pf_X0_closeWithin_2b (nI cnt) k2 (nI i) tk = k2 (nI (i + 1)) (upd tk i (nI (if vi ≤ cnt then 0 else 1000000))) := by
  unfold pf_X0_closeWithin_2b pf_X0_closeWithin_30
  rw [if_neg (fun d => by have := (kv_ge256 (by omega)).mp d; omega), kv_gN hi (by omega)]
  simp only [kv_T, nI_clamp (show i < 2 ^ 31 by omega), hv, kv_gN hi (show i < 2 ^ 31 by omega), nI_1]
  by_cases h : vi ≤ cnt
  · rw [if_neg (fun c => by have := (nI_ltI (by omega) (by omega)).mp c; omega), if_pos h]
    rfl
  · rw [if_pos ((nI_ltI (by omega) (by omega)).mpr (by omega)), if_neg h]
    rfl
theorem q_cw (cnt : Nat) (v : Nat → Nat) (hc : cnt ≤ 500) (hb : ∀ S, S < 256 → v S ≤ 1000000) : ∀ (k f i : Nat) (tk : Nat → Int32), i + k = 256 → k < f → (∀ S, S < 256 → tk S = nI (if S < i then (if v S ≤ cnt then 0 else 1000000) else v S)) → ∃ tk', pf_X0_closeWithin_2 (nI cnt) f (nI i) tk = some tk' ∧ ∀ S, S < 256 → tk' S = nI (if v S ≤ cnt then 0 else 1000000) := by
  intro k
  induction k with
  | zero =>
    intro f i tk hi hf hI
    obtain ⟨f, rfl⟩ : ∃ z, f = z + 1 := ⟨f - 1, by omega⟩
    refine ⟨tk, ?_, fun S hS => ?_⟩
    · rw [pf_X0_closeWithin_2.eq_2]
      unfold pf_X0_closeWithin_2b
      rw [if_pos ((kv_ge256 (by omega)).mpr (by omega))]
    · rw [hI S hS, if_pos (by omega)]
  | succ k ih =>
    intro f i tk hi hf hI
    obtain ⟨f, rfl⟩ : ∃ z, f = z + 1 := ⟨f - 1, by omega⟩
    have hi2 : i < 256 := by omega
    have hti := hI i hi2
    rw [if_neg (Nat.lt_irrefl i)] at hti
    rw [pf_X0_closeWithin_2.eq_2, kv_cw_b cnt (v i) i _ tk hi2 hc hti (hb i hi2)]
    refine ih f (i + 1) _ (by omega) (by omega) (fun S hS => ?_)
    unfold upd
    by_cases e : S = i
    · rw [if_pos e, e, if_pos (show i < i + 1 by omega)]
    · rw [if_neg e, hI S hS]
      by_cases g : S < i
      · rw [if_pos g, if_pos (show S < i + 1 by omega)]
      · rw [if_neg g, if_neg (show ¬ S < i + 1 by omega)]
theorem q_close {cnt : Nat} {tk : Nat → Int32} {v : Nat → Nat} (hc : cnt ≤ 500) (hv : kv_is tk v) : ∃ tk', pf_X0_closeWithin (nI cnt) tk = some tk' ∧ kv_is tk' (fun S => if v S ≤ cnt then 0 else 1000000) := by
  obtain ⟨tk', h1, h2⟩ := q_cw cnt v hc (fun S hS => (hv S hS).2) 256 kv_F 0 tk (by omega) (kv_Fgt (by omega)) (fun S hS => by rw [if_neg (Nat.not_lt_zero S)]; exact (hv S hS).1)
  refine ⟨tk', h1, fun S hS => ⟨h2 S hS, ?_⟩⟩
  show (if v S ≤ cnt then 0 else 1000000) ≤ 1000000
  split <;> omega
theorem kv_wg_b (p0 p1 : Int32) (w m i : Nat) (k2 : Int32 → Int32 → (Nat → Int32) → Int32 → Option ((Nat → Int32) × Int32)) (sw : Nat → Int32) (hv : Int32) (hm : m < 8) (hi : i < 2 ^ m) : pf_X0_weigh_23b p0 p1 (nI w) k2 (nI (2 ^ m)) (nI i) sw hv = k2 (nI (2 ^ m)) (nI (i + 1)) (upd sw (2 ^ m + i) (sw i + nI w)) hv := by
  have hp := kv_p2 hm
  have hor : 2 ^ m ||| i = 2 ^ m + i := by
    have h := Nat.two_pow_add_eq_or_of_lt hi 1
    rw [Nat.mul_one] at h
    exact h.symm
  have hlt : 2 ^ m + i < 256 := by rw [← hor]; exact kv_orb hp (by omega)
  have hor2 : nI (2 ^ m) ||| nI i = nI (2 ^ m + i) := by rw [kv_or32 (by omega) (by omega), hor]
  unfold pf_X0_weigh_23b
  rw [if_neg (fun d => by have := (nI_leI (by omega) (by omega)).mp d; omega), hor2, if_neg (fun d => by have := (kv_ge256 (by omega)).mp d; omega), kv_gN (show i < 256 by omega) (by omega)]
  simp only [kv_T, nI_clamp (show i < 2 ^ 31 by omega), nI_clamp (show 2 ^ m + i < 2 ^ 31 by omega), kv_gN hlt (show 2 ^ m + i < 2 ^ 31 by omega), nI_1]
theorem q_wg (p0 p1 : Int32) (w : Nat → Nat) (m : Nat) (hv : Int32) (hm : m < 8) : ∀ (k f i : Nat) (sw : Nat → Int32), i + k = 2 ^ m → k < f → (∀ U, U < 2 ^ m → sw U = nI (kv_S w U m)) → (∀ U, U < i → sw (2 ^ m + U) = nI (kv_S w U m + w m)) → ∃ sw', pf_X0_weigh_23 p0 p1 (nI (w m)) f (nI (2 ^ m)) (nI i) sw hv = some (sw', hv) ∧ (∀ U, U < 2 ^ m → sw' U = nI (kv_S w U m)) ∧ (∀ U, U < 2 ^ m → sw' (2 ^ m + U) = nI (kv_S w U m + w m)) := by
  intro k
  induction k with
  | zero =>
    intro f i sw hi hf h1 h2
    obtain ⟨f, rfl⟩ : ∃ z, f = z + 1 := ⟨f - 1, by omega⟩
    have hp := kv_p2 hm
    refine ⟨sw, ?_, h1, fun U hU => h2 U (by omega)⟩
    rw [pf_X0_weigh_23.eq_2]
    unfold pf_X0_weigh_23b
    rw [if_pos ((nI_leI (by omega) (by omega)).mpr (by omega))]
  | succ k ih =>
    intro f i sw hi hf h1 h2
    obtain ⟨f, rfl⟩ : ∃ z, f = z + 1 := ⟨f - 1, by omega⟩
    have hi2 : i < 2 ^ m := by omega
    rw [pf_X0_weigh_23.eq_2, kv_wg_b p0 p1 (w m) m i _ sw hv hm hi2]
    refine ih f (i + 1) _ (by omega) (by omega) (fun U hU => ?_) (fun U hU => ?_)
    · unfold upd
      rw [if_neg (by omega)]
      exact h1 U hU
    · unfold upd
      by_cases e : U = i
      · rw [if_pos (by omega), h1 i hi2, nI_add, e]
      · rw [if_neg (by omega)]
        exact h2 U (by omega)
theorem kv_wgh (p1 w : Int32) (m : Nat) (sw : Nat → Int32) (hv : Int32) (hm : m < 8) : pf_X0_weigh (nI m) p1 w sw hv = if p1 = 0 then pf_X0_weigh_23 (nI m) p1 w kv_F (nI (2 ^ m)) 0 sw hv else pf_X0_weigh_23 (nI m) p1 w kv_F (nI (2 ^ m)) 0 sw (hv ||| nI (2 ^ m)) := by
  simp only [pf_X0_weigh, pf_X0_weigh_20, kv_T, kv_bit hm]
theorem q_weigh (p1 : Int32) (w : Nat → Nat) (m h : Nat) (b : Bool) (hm : m < 8) (hh : h < 256) (hp1 : p1 = if b = true then 1 else 0) (sw : Nat → Int32) (h1 : ∀ U, U < 2 ^ m → sw U = nI (kv_S w U m)) : ∃ sw', pf_X0_weigh (nI m) p1 (nI (w m)) sw (nI h) = some (sw', nI (if b = true then h ||| 2 ^ m else h)) ∧ ∀ U, U < 2 ^ (m + 1) → sw' U = nI (kv_S w U (m + 1)) := by
  have hp := kv_p2 hm
  have key : ∀ hv : Int32, ∃ sw', pf_X0_weigh_23 (nI m) p1 (nI (w m)) kv_F (nI (2 ^ m)) (nI 0) sw hv = some (sw', hv) ∧ ∀ U, U < 2 ^ (m + 1) → sw' U = nI (kv_S w U (m + 1)) := by
    intro hv
    obtain ⟨sw', g1, g2, g3⟩ := q_wg (nI m) p1 w m hv hm (2 ^ m) kv_F 0 sw (by omega) (kv_Fgt (by omega)) h1 (fun U hU => absurd hU (Nat.not_lt_zero U))
    refine ⟨sw', g1, fun U hU => ?_⟩
    have hq : 2 ^ (m + 1) = 2 ^ m + 2 ^ m := by rw [Nat.pow_succ]; omega
    by_cases c : U < 2 ^ m
    · rw [g2 U c, kv_S_lo c]
    · obtain ⟨V, rfl⟩ : ∃ V, U = 2 ^ m + V := ⟨U - 2 ^ m, by omega⟩
      rw [g3 V (by omega), kv_S_hi (by omega)]
  rw [kv_wgh p1 (nI (w m)) m sw (nI h) hm]
  cases b with
  | true =>
    obtain ⟨sw', g1, g2⟩ := key (nI h ||| nI (2 ^ m))
    refine ⟨sw', ?_, g2⟩
    rw [if_pos rfl] at hp1
    rw [if_neg (show ¬ (p1 = 0) by rw [hp1]; decide), if_pos rfl, ← nI_0]
    rw [kv_or32 (by omega) (by omega)] at g1 ⊢
    exact g1
  | false =>
    obtain ⟨sw', g1, g2⟩ := key (nI h)
    refine ⟨sw', ?_, g2⟩
    rw [if_neg (show ¬ (false = true) by decide)] at hp1
    rw [if_pos hp1, if_neg (show ¬ (false = true) by decide), ← nI_0]
    exact g1
end KVP6
