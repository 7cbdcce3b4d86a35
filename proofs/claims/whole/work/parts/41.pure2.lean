section KVP2
theorem kv_addI {a b : Int32} (h1 : -2147483648 ≤ a.toInt + b.toInt) (h2 : a.toInt + b.toInt < 2147483648) : (a + b).toInt = a.toInt + b.toInt := by
  rw [Int32.toInt_add]
  exact Int.bmod_eq_of_le (by omega) (by omega)
theorem kv_subI {a b : Int32} (h1 : -2147483648 ≤ a.toInt - b.toInt) (h2 : a.toInt - b.toInt < 2147483648) : (a - b).toInt = a.toInt - b.toInt := by
  rw [Int32.toInt_sub]
  exact Int.bmod_eq_of_le (by omega) (by omega)
theorem kv_dec {c e x : Int32} (h0 : 0 ≤ c) (h1 : 0 ≤ e) (h2 : c + e ≤ 500) (hc : c ≤ 500) (he : e ≤ 500) (hx : 0 ≤ x) (hx2 : x ≤ c) : 0 ≤ c - x ∧ c - x + e ≤ 500 ∧ c - x ≤ 500 := by
  simp only [Int32.le_iff_toInt_le, kv_i0, kv_i500] at *
  rw [kv_addI (by omega) (by omega)] at h2
  have e1 : (c - x).toInt = c.toInt - x.toInt := kv_subI (by omega) (by omega)
  rw [kv_addI (by omega) (by omega), e1]
  omega
theorem kv_len {c e x : Int32} (h0 : 0 ≤ c) (h1 : 0 ≤ e) (h2 : c + e ≤ 500) (hc : c ≤ 500) (he : e ≤ 500) (hx : -500 ≤ x) (hx2 : x ≤ c) (hx3 : 0 ≤ e + x) : 0 ≤ c - x ∧ 0 ≤ e + x ∧ c - x + (e + x) ≤ 500 ∧ c - x ≤ 500 ∧ e + x ≤ 500 := by
  simp only [Int32.le_iff_toInt_le, kv_i0, kv_i500, kv_in500] at *
  rw [kv_addI (by omega) (by omega)] at h2
  have e1 : (c - x).toInt = c.toInt - x.toInt := kv_subI (by omega) (by omega)
  have e2 : (e + x).toInt = e.toInt + x.toInt := kv_addI (by omega) (by omega)
  rw [e2] at hx3
  have e3 : (c - x + (e + x)).toInt = c.toInt + e.toInt := by rw [kv_addI (by omega) (by omega)]; omega
  rw [e3, e1, e2]
  omega
theorem kv_lt12 {n : Nat} (h : n ≤ 12) : nI n < 12 ↔ n < 12 := nI_ltI (b := 12) (by omega) (by decide)
theorem kv_eq12 {n : Nat} (h : n ≤ 12) : nI n = 12 ↔ n = 12 := nI_eq (b := 12) (by omega) (by decide)
theorem kv_gN {i n : Nat} (h : i < n) (hi : i < 2 ^ 31) {α : Type} (k : Option α) : kv_G (nI i) n k = k := kv_gT (by rw [nI_toInt hi]; omega) (by rw [nI_toInt hi]; omega)
theorem q_lays (la : Nat → Int32) (p0 p1 p2 p3 : Int32) (n : Nat) (rp rm rc ro rl : Nat → Int32) (hn : n < 12) (h : kv_iv p0 0 3 = true) : pf_X3_lays la p0 p1 p2 p3 (nI n) rp rm rc ro rl = some (nI (n + 1) - 1, nI (n + 1), upd rp n p0, upd rm n p1, upd rc n p2, upd ro n (la p0.toNatClampNeg), upd rl n p3) := by
  unfold pf_X3_lays kv_T
  simp only [kv_gN hn (show n < 2 ^ 31 by omega), kv_g4 h, nI_clamp (show n < 2 ^ 31 by omega), nI_1]
theorem q_add (kl : Nat → Int32) (p0 p1 p2 p3 mo : Int32) (n : Nat) (qp qm ql qv qc qe : Nat → Int32) (hn : n < 12) (h : kv_iv p0 0 3 = true) : pf_X2_addRight kl p0 p1 p2 p3 mo n qp qm ql qv qc qe = some (nI (n + 1) - 1, mo + 1, n + 1, upd qp n p0, upd qm n p1, upd ql n p3, upd qv n (kl p0.toNatClampNeg), upd qc n p2, upd qe n 0) := by
  unfold pf_X2_addRight kv_T
  rw [kv_g4 h]
  exact if_pos hn
theorem q_room {n : Nat} (hn : n ≤ 12) : pf_X2_requireRoomForRight n = if n < 12 then some (.inl ()) else some (.inr 3) := by
  unfold pf_X2_requireRoomForRight
  simp only [kv_lt12 hn]
def kv_any (f : Nat → Bool) : Nat → Nat → Bool
  | _, 0 => false
  | i, k + 1 => f i || kv_any f (i + 1) k
theorem kv_any_c {f g : Nat → Bool} : ∀ (k i : Nat), (∀ j, i ≤ j → j < i + k → f j = g j) → kv_any f i k = kv_any g i k := by
  intro k
  induction k with
  | zero => intro i _; rfl
  | succ k ih =>
    intro i h
    unfold kv_any
    rw [h i (Nat.le_refl _) (by omega), ih (i + 1) (fun j a b => h j (by omega) (by omega))]
theorem kv_ge8 {i : Nat} (h : i ≤ 8) : (8 : Int32) ≤ nI i ↔ 8 ≤ i := nI_leI (a := 8) (by decide) (by omega)
theorem q_isH2 (kh : Nat → Int32) (p0 : Int32) : ∀ (k f i : Nat), i + k = 8 → k < f → pf_X2_isHost_2 kh p0 f (nI i) = some (if kv_any (fun j => decide (kh j = p0)) i k = true then 1 else 0) := by
  intro k
  induction k with
  | zero =>
    intro f i hi hf
    obtain ⟨f, rfl⟩ : ∃ g, f = g + 1 := ⟨f - 1, by omega⟩
    show pf_X2_isHost_2b kh p0 (pf_X2_isHost_2 kh p0 f) (nI i) = _
    unfold pf_X2_isHost_2b
    rw [if_pos ((kv_ge8 (by omega)).mpr (by omega))]
    rfl
  | succ k ih =>
    intro f i hi hf
    obtain ⟨f, rfl⟩ : ∃ g, f = g + 1 := ⟨f - 1, by omega⟩
    show pf_X2_isHost_2b kh p0 (pf_X2_isHost_2 kh p0 f) (nI i) = _
    unfold pf_X2_isHost_2b kv_T
    rw [if_neg (fun c => by have := (kv_ge8 (by omega)).mp c; omega), kv_gN (by omega) (by omega), nI_clamp (by omega), nI_1, ih f (i + 1) (by omega) (by omega)]
    by_cases h : kh i = p0
    · simp [kv_any, h]
    · simp [kv_any, h]
theorem q_isH3 (ho : Nat → Int32) (p0 : Int32) : ∀ (k f i : Nat) (b : Bool), i + k = 8 → k < f → pf_X3_isHost_4 ho p0 f (if b = true then 1 else 0) (nI i) = some (if (b || kv_any (fun j => decide (ho j = p0)) i k) = true then 1 else 0) := by
  intro k
  induction k with
  | zero =>
    intro f i b hi hf
    obtain ⟨f, rfl⟩ : ∃ g, f = g + 1 := ⟨f - 1, by omega⟩
    show pf_X3_isHost_4b ho p0 (pf_X3_isHost_4 ho p0 f) _ (nI i) = _
    unfold pf_X3_isHost_4b
    rw [if_pos ((kv_ge8 (by omega)).mpr (by omega))]
    cases b <;> rfl
  | succ k ih =>
    intro f i b hi hf
    obtain ⟨f, rfl⟩ : ∃ g, f = g + 1 := ⟨f - 1, by omega⟩
    show pf_X3_isHost_4b ho p0 (pf_X3_isHost_4 ho p0 f) _ (nI i) = _
    unfold pf_X3_isHost_4b kv_T pf_X3_isHost_29
    rw [if_neg (fun c => by have := (kv_ge8 (by omega)).mp c; omega), kv_gN (by omega) (by omega), nI_clamp (by omega), nI_1]
    have iT := ih f (i + 1) true (by omega) (by omega)
    have iF := ih f (i + 1) false (by omega) (by omega)
    rw [if_pos rfl] at iT
    rw [if_neg (by decide)] at iF
    cases b with
    | true => rw [if_pos rfl, if_neg (by decide), iT]; simp
    | false =>
      rw [if_neg (show ¬ (false = true) by decide), if_pos rfl]
      by_cases h : ho i = p0
      · simp only [if_pos h]; rw [iT]; simp [kv_any, h]
      · simp only [if_neg h]; rw [iF]; simp [kv_any, h]
def kv_mv (kh : Nat → Int32) (p0 p1 : Int32) : Nat := if kv_iv p0 0 7 = true then if p1 = -1 then 0 else if kv_iv p1 0 7 = true then if p0 = p1 then 2 else if kv_any (fun j => decide (kh j = p0)) 0 8 = true then 3 else if kh p1.toNatClampNeg = -1 then 0 else 3 else 1 else 1
theorem kv_FS : kv_F = 69999 + 1 := rfl
theorem q_mv2 (kh : Nat → Int32) (p0 p1 : Int32) : pf_X2_requireMovable kh p0 p1 = if kv_mv kh p0 p1 = 0 then some (.inl ()) else some (.inr (kv_mv kh p0 p1)) := by
  unfold pf_X2_requireMovable kv_mv pf_X2_isHost kv_T
  rw [q_M, q_M, show pf_X2_isHost_2 kh p0 kv_F 0 = _ from q_isH2 kh p0 8 kv_F 0 (by decide) (by decide)]
  cases c1 : kv_iv p0 0 7
  · simp [kv_x0]
  · by_cases c2 : p1 = -1
    · simp [kv_x0, c2]
    · cases c3 : kv_iv p1 0 7
      · simp [kv_x0, c2]
      · by_cases c4 : p0 = p1
        · simp [kv_x0, c2, c4]
        · cases c5 : kv_any (fun j => decide (kh j = p0)) 0 8
          · by_cases c6 : kh p1.toNatClampNeg = -1
            · simp [kv_x0, kv_q1, c2, c4, c6, kv_g8 c3]
            · simp [kv_x0, kv_q1, c2, c4, c6, kv_g8 c3]
          · simp [kv_x0, kv_q1, c2, c4]
theorem q_mv3 (ho : Nat → Int32) (p0 p1 : Int32) : pf_X3_refuses ho p0 p1 = some (nI (kv_mv ho p0 p1)) := by
  unfold pf_X3_refuses kv_mv pf_X3_refuses_21 pf_X3_isHost kv_T
  have hH := q_isH3 ho p0 8 kv_F 0 false (by decide) (by decide)
  rw [if_neg (by decide)] at hH
  rw [q_isM, q_isM, show pf_X3_isHost_4 ho p0 kv_F 0 0 = _ from hH]
  cases c1 : kv_iv p0 0 7
  · simp [kv_q1]; rfl
  · by_cases c2 : p1 = -1
    · have c4 : ¬ p0 = -1 := fun e => by
        subst e
        exact absurd c1 (by decide)
      subst c2
      simp [kv_q1, c4, nI_0]
    · cases c3 : kv_iv p1 0 7
      · simp [kv_q1, c2]; rfl
      · by_cases c4 : p0 = p1
        · simp [kv_q1, c2, c4]; rfl
        · cases c5 : kv_any (fun j => decide (ho j = p0)) 0 8
          · by_cases c6 : ho p1.toNatClampNeg = -1
            · simp [kv_q1, c2, c4, c6, kv_g8 c3, nI_0]
            · simp [kv_q1, c2, c4, c6, kv_g8 c3]; rfl
          · simp [kv_q1, c2, c4]; rfl
theorem kv_mv_c {kh ho : Nat → Int32} (h : ∀ i, i < 8 → kh i = ho i) (p0 p1 : Int32) : kv_mv kh p0 p1 = kv_mv ho p0 p1 := by
  unfold kv_mv
  rw [kv_any_c (f := fun j => decide (kh j = p0)) (g := fun j => decide (ho j = p0)) 8 0 (fun j _ hj => by rw [h j (by omega)])]
  cases c3 : kv_iv p1 0 7
  · simp
  · rw [h _ (kv_c8 c3)]
theorem kv_mv_le (kh : Nat → Int32) (p0 p1 : Int32) : kv_mv kh p0 p1 ≤ 3 := by
  unfold kv_mv
  repeat' split
  all_goals decide
theorem kv_mv_0 {kh : Nat → Int32} {p0 p1 : Int32} (h : kv_mv kh p0 p1 = 0) : kv_iv p0 0 7 = true ∧ (p1 = -1 ∨ kv_iv p1 0 7 = true) := by
  unfold kv_mv at h
  cases c1 : kv_iv p0 0 7
  · simp [c1] at h
  · refine ⟨rfl, ?_⟩
    by_cases c2 : p1 = -1
    · exact Or.inl c2
    · cases c3 : kv_iv p1 0 7
      · simp [c1, c2, c3] at h
      · exact Or.inr rfl
theorem kv_mv_b {kh : Nat → Int32} {p0 p1 : Int32} (h : kv_mv kh p0 p1 = 0) : -1 ≤ p1 ∧ p1 ≤ 7 := by
  rcases (kv_mv_0 h).2 with e | e
  · subst e; decide
  · have := kv_ivI e
    simp only [Int32.le_iff_toInt_le, kv_i0, kv_i7, kv_in1] at *
    omega
end KVP2
