section KVP0
def kv_iv (x a b : Int32) : Bool := decide (a ≤ x) && decide (x ≤ b)
theorem kv_ivT {x a b : Int32} : kv_iv x a b = true ↔ a.toInt ≤ x.toInt ∧ x.toInt ≤ b.toInt := by
  unfold kv_iv
  rw [Bool.and_eq_true, decide_eq_true_iff, decide_eq_true_iff, Int32.le_iff_toInt_le, Int32.le_iff_toInt_le]
theorem kv_ivF {x a b : Int32} : kv_iv x a b = false ↔ ¬ (a.toInt ≤ x.toInt ∧ x.toInt ≤ b.toInt) := by
  rw [← kv_ivT, Bool.not_eq_true]
theorem kv_i0 : (0 : Int32).toInt = 0 := rfl
theorem kv_i1 : (1 : Int32).toInt = 1 := rfl
theorem kv_i3 : (3 : Int32).toInt = 3 := rfl
theorem kv_i4 : (4 : Int32).toInt = 4 := rfl
theorem kv_i7 : (7 : Int32).toInt = 7 := rfl
theorem kv_i8 : (8 : Int32).toInt = 8 := rfl
theorem kv_i9 : (9 : Int32).toInt = 9 := rfl
theorem kv_i12 : (12 : Int32).toInt = 12 := rfl
theorem kv_in1 : (-1 : Int32).toInt = -1 := rfl
theorem kv_i64 : (64 : Int32).toInt = 64 := rfl
theorem kv_i500 : (500 : Int32).toInt = 500 := rfl
theorem kv_in500 : (-500 : Int32).toInt = -500 := rfl
theorem kv_i1000 : (1000 : Int32).toInt = 1000 := rfl
theorem q_rg (p0 p1 p2 : Int32) : pf_X2_requireRange p0 p1 p2 = if kv_iv p0 p1 p2 = true then some (.inl ()) else some (.inr 2) := by
  unfold pf_X2_requireRange
  have h := @kv_ivT p0 p1 p2
  simp only [Int32.lt_iff_toInt_lt, Int32.le_iff_toInt_le]
  by_cases a : p0.toInt < p1.toInt
  · rw [if_pos a, if_neg (fun c => by have := h.mp c; omega)]
  · rw [if_neg a]
    by_cases b : p0.toInt ≤ p2.toInt
    · rw [if_pos b, if_pos (h.mpr ⟨by omega, b⟩)]
    · rw [if_neg b, if_neg (fun c => b (h.mp c).2)]
theorem q_M (p0 : Int32) : pf_X2_requireMachine p0 = if kv_iv p0 0 7 = true then some (.inl ()) else some (.inr 1) := by
  unfold pf_X2_requireMachine
  have h := @kv_ivT p0 0 7
  have h8 := kv_i8; have h0 := kv_i0; have h7 := kv_i7
  simp only [Int32.lt_iff_toInt_lt]
  by_cases a : p0.toInt < (0 : Int32).toInt
  · rw [if_pos a, if_neg (fun c => by have := h.mp c; omega)]
  · rw [if_neg a]
    by_cases b : p0.toInt < (8 : Int32).toInt
    · rw [if_pos b, if_pos (h.mpr ⟨by omega, by omega⟩)]
    · rw [if_neg b, if_neg (fun c => by have := (h.mp c).2; omega)]
theorem q_P (p0 : Int32) : pf_X2_requireProduct p0 = if kv_iv p0 0 3 = true then some (.inl ()) else some (.inr 1) := by
  unfold pf_X2_requireProduct
  have h := @kv_ivT p0 0 3
  have h8 := kv_i4; have h0 := kv_i0; have h7 := kv_i3
  simp only [Int32.lt_iff_toInt_lt]
  by_cases a : p0.toInt < (0 : Int32).toInt
  · rw [if_pos a, if_neg (fun c => by have := h.mp c; omega)]
  · rw [if_neg a]
    by_cases b : p0.toInt < (4 : Int32).toInt
    · rw [if_pos b, if_pos (h.mpr ⟨by omega, by omega⟩)]
    · rw [if_neg b, if_neg (fun c => by have := (h.mp c).2; omega)]
theorem kv_nIm {n : Nat} (h : n ≤ 12) : (nI n - 1).toInt = (n : Int) - 1 := by
  rw [show (1 : Int32) = nI 1 from rfl, pk_sub_toInt (by omega) (by decide)]
  rfl
theorem kv_clamp (x : Int32) : x.toNatClampNeg = x.toInt.toNat := rfl
theorem kv_gT {α : Type} {x : Int32} {n : Nat} {k : Option α} (h0 : 0 ≤ x.toInt) (h1 : x.toInt < n) : kv_G x n k = k := by
  unfold kv_G
  rw [if_neg]
  intro c
  rcases c with c | c
  · rw [Int32.lt_iff_toInt_lt, kv_i0] at c; omega
  · rw [kv_clamp] at c; omega
theorem kv_lT {α : Type} {x : Int32} {n : Nat} {k : Option α} (hn : n ≤ 12) (h0 : 0 ≤ x.toInt) (h1 : x.toInt < n) : kv_L x n k = k := by
  unfold kv_L
  rw [if_neg]
  intro c
  rcases c with c | c | c
  · rw [Int32.lt_iff_toInt_lt, kv_i0] at c; omega
  · rw [kv_clamp] at c; omega
  · omega
theorem kv_g8 {x : Int32} (h : kv_iv x 0 7 = true) {α : Type} (k : Option α) : kv_G x 8 k = k := by
  obtain ⟨a, b⟩ := kv_ivT.mp h
  rw [kv_i0] at a; rw [kv_i7] at b
  exact kv_gT a (by omega)
theorem kv_g4 {x : Int32} (h : kv_iv x 0 3 = true) {α : Type} (k : Option α) : kv_G x 4 k = k := by
  obtain ⟨a, b⟩ := kv_ivT.mp h
  rw [kv_i0] at a; rw [kv_i3] at b
  exact kv_gT a (by omega)
theorem kv_ivR {x : Int32} {n : Nat} (hn : n ≤ 12) (h : kv_iv x 0 (nI n - 1) = true) : 0 ≤ x.toInt ∧ x.toInt < n := by
  obtain ⟨a, b⟩ := kv_ivT.mp h
  rw [kv_i0] at a; rw [kv_nIm hn] at b
  exact ⟨a, by omega⟩
theorem kv_g12 {x : Int32} {n : Nat} (hn : n ≤ 12) (h : kv_iv x 0 (nI n - 1) = true) {α : Type} (k : Option α) : kv_G x 12 k = k := by
  obtain ⟨a, b⟩ := kv_ivR hn h
  exact kv_gT a (by omega)
theorem kv_c8 {x : Int32} (h : kv_iv x 0 7 = true) : x.toNatClampNeg < 8 := by
  obtain ⟨a, b⟩ := kv_ivT.mp h
  rw [kv_i0] at a; rw [kv_i7] at b
  rw [kv_clamp]; omega
theorem kv_c4 {x : Int32} (h : kv_iv x 0 3 = true) : x.toNatClampNeg < 4 := by
  obtain ⟨a, b⟩ := kv_ivT.mp h
  rw [kv_i0] at a; rw [kv_i3] at b
  rw [kv_clamp]; omega
theorem kv_cR {x : Int32} {n : Nat} (hn : n ≤ 12) (h : kv_iv x 0 (nI n - 1) = true) : x.toNatClampNeg < n := by
  obtain ⟨a, b⟩ := kv_ivR hn h
  rw [kv_clamp]; omega
theorem q_rA {n : Nat} (hn : n ≤ 12) (x : Int32) : pf_X2_rightAt n x = if kv_iv x 0 (nI n - 1) = true then some (.inl x.toNatClampNeg) else some (.inr 1) := by
  unfold pf_X2_rightAt
  have h := @kv_ivT x 0 (nI n - 1)
  rw [kv_i0, kv_nIm hn] at h
  have hN : (nI n).toInt = n := nI_toInt (by omega)
  simp only [Int32.lt_iff_toInt_lt, kv_i0, hN]
  by_cases a : x.toInt < 0
  · rw [if_pos a, if_neg (fun c => by have := h.mp c; omega)]
  · rw [if_neg a]
    by_cases b : x.toInt < n
    · rw [if_pos b, if_pos (h.mpr ⟨by omega, by omega⟩), kv_lT hn (by omega) b]; rfl
    · rw [if_neg b, if_neg (fun c => by have := (h.mp c).2; omega)]
theorem kv_mp {x y : Int32} (hx : kv_iv x 0 7 = true) (hy : kv_iv y 0 3 = true) : (4 * x + y).toInt = 4 * x.toInt + y.toInt := by
  obtain ⟨a, b⟩ := kv_ivT.mp hx
  obtain ⟨c, d⟩ := kv_ivT.mp hy
  rw [kv_i0] at a c; rw [kv_i7] at b; rw [kv_i3] at d
  rw [Int32.toInt_add, Int32.toInt_mul, kv_i4]
  have e1 : (4 * x.toInt).bmod (2 ^ 32) = 4 * x.toInt := Int.bmod_eq_of_le (by omega) (by omega)
  rw [e1]
  exact Int.bmod_eq_of_le (by omega) (by omega)
theorem kv_g32 {x y : Int32} (hx : kv_iv x 0 7 = true) (hy : kv_iv y 0 3 = true) {α : Type} (k : Option α) : kv_G (4 * x + y) 32 k = k := by
  have e := kv_mp hx hy
  obtain ⟨a, b⟩ := kv_ivT.mp hx
  obtain ⟨c, d⟩ := kv_ivT.mp hy
  rw [kv_i0] at a c; rw [kv_i7] at b; rw [kv_i3] at d
  exact kv_gT (by omega) (by omega)
theorem kv_c32 {x y : Int32} (hx : kv_iv x 0 7 = true) (hy : kv_iv y 0 3 = true) : (4 * x + y).toNatClampNeg = 4 * x.toNatClampNeg + y.toNatClampNeg := by
  have e := kv_mp hx hy
  obtain ⟨a, b⟩ := kv_ivT.mp hx
  obtain ⟨c, d⟩ := kv_ivT.mp hy
  rw [kv_i0] at a c
  rw [kv_clamp, kv_clamp, kv_clamp, e]; omega
theorem kv_ivI {x a b : Int32} (h : kv_iv x a b = true) : a ≤ x ∧ x ≤ b := by
  rw [kv_ivT] at h
  exact ⟨Int32.le_iff_toInt_le.mpr h.1, Int32.le_iff_toInt_le.mpr h.2⟩
end KVP0


section KVP1
/-- what a machine weighs for a product -/
def kv_wt (kc : Nat → Int32) (fo : Nat → Nat → Int32) (kp : Nat → Int32) (i j : Nat) : Int32 := if fo i j ≤ 0 then 0 else kc i * kp j
end KVP1

section KVP2
theorem kv_addI {a b : Int32} (h1 : -2147483648 ≤ a.toInt + b.toInt) (h2 : a.toInt + b.toInt < 2147483648) : (a + b).toInt = a.toInt + b.toInt := by
  rw [Int32.toInt_add]
  exact Int.bmod_eq_of_le (by omega) (by omega)
theorem kv_subI {a b : Int32} (h1 : -2147483648 ≤ a.toInt - b.toInt) (h2 : a.toInt - b.toInt < 2147483648) : (a - b).toInt = a.toInt - b.toInt := by
  rw [Int32.toInt_sub]
  exact Int.bmod_eq_of_le (by omega) (by omega)
theorem kv_dec {c e x : Int32} (h0 : 0 ≤ c) (h1 : 0 ≤ e) (h2 : c + e ≤ 500) (hc : c ≤ 500) (he : e ≤ 500) (hx : 0 ≤ x) (hx2 : x ≤ c) : 0 ≤ c - x ∧ c - x + e ≤ 500 ∧ c - x ≤ 500 := by
  simp only [Int32.le_iff_toInt_le, kv_i0, kv_i500] at *
  rw [kv_addI (by omega) (by omega)] at h2
  have e1 : (c - x).toInt = c.toInt - x.toInt := kv_subI (by omega) (by omega)
  rw [kv_addI (by omega) (by omega), e1]
  omega
theorem kv_len {c e x : Int32} (h0 : 0 ≤ c) (h1 : 0 ≤ e) (h2 : c + e ≤ 500) (hc : c ≤ 500) (he : e ≤ 500) (hx : -500 ≤ x) (hx2 : x ≤ c) (hx3 : 0 ≤ e + x) : 0 ≤ c - x ∧ 0 ≤ e + x ∧ c - x + (e + x) ≤ 500 ∧ c - x ≤ 500 ∧ e + x ≤ 500 := by
  simp only [Int32.le_iff_toInt_le, kv_i0, kv_i500, kv_in500] at *
  rw [kv_addI (by omega) (by omega)] at h2
  have e1 : (c - x).toInt = c.toInt - x.toInt := kv_subI (by omega) (by omega)
  have e2 : (e + x).toInt = e.toInt + x.toInt := kv_addI (by omega) (by omega)
  rw [e2] at hx3
  have e3 : (c - x + (e + x)).toInt = c.toInt + e.toInt := by rw [kv_addI (by omega) (by omega)]; omega
  rw [e3, e1, e2]
  omega
theorem kv_lt12 {n : Nat} (h : n ≤ 12) : nI n < 12 ↔ n < 12 := nI_ltI (b := 12) (by omega) (by decide)
theorem kv_eq12 {n : Nat} (h : n ≤ 12) : nI n = 12 ↔ n = 12 := nI_eq (b := 12) (by omega) (by decide)
theorem kv_gN {i n : Nat} (h : i < n) (hi : i < 2 ^ 31) {α : Type} (k : Option α) : kv_G (nI i) n k = k := kv_gT (by rw [nI_toInt hi]; omega) (by rw [nI_toInt hi]; omega)
theorem q_add (kl : Nat → Int32) (p0 p1 p2 p3 mo : Int32) (n : Nat) (qp qm ql qv qc qe : Nat → Int32) (hn : n < 12) (h : kv_iv p0 0 3 = true) : pf_X2_addRight kl p0 p1 p2 p3 mo n qp qm ql qv qc qe = some (nI (n + 1) - 1, mo + 1, n + 1, upd qp n p0, upd qm n p1, upd ql n p3, upd qv n (kl p0.toNatClampNeg), upd qc n p2, upd qe n 0) := by
  unfold pf_X2_addRight kv_T
  rw [kv_g4 h]
  exact if_pos hn
theorem q_room {n : Nat} (hn : n ≤ 12) : pf_X2_requireRoomForRight n = if n < 12 then some (.inl ()) else some (.inr 3) := by
  unfold pf_X2_requireRoomForRight
  simp only [kv_lt12 hn]
def kv_any (f : Nat → Bool) : Nat → Nat → Bool
  | _, 0 => false
  | i, k + 1 => f i || kv_any f (i + 1) k
theorem kv_any_c {f g : Nat → Bool} : ∀ (k i : Nat), (∀ j, i ≤ j → j < i + k → f j = g j) → kv_any f i k = kv_any g i k := by
  intro k
  induction k with
  | zero => intro i _; rfl
  | succ k ih =>
    intro i h
    unfold kv_any
    rw [h i (Nat.le_refl _) (by omega), ih (i + 1) (fun j a b => h j (by omega) (by omega))]
theorem kv_ge8 {i : Nat} (h : i ≤ 8) : (8 : Int32) ≤ nI i ↔ 8 ≤ i := nI_leI (a := 8) (by decide) (by omega)
theorem q_isH2 (kh : Nat → Int32) (p0 : Int32) : ∀ (k f i : Nat), i + k = 8 → k < f → pf_X2_isHost_2 kh p0 f (nI i) = some (if kv_any (fun j => decide (kh j = p0)) i k = true then 1 else 0) := by
  intro k
  induction k with
  | zero =>
    intro f i hi hf
    obtain ⟨f, rfl⟩ : ∃ g, f = g + 1 := ⟨f - 1, by omega⟩
    show pf_X2_isHost_2b kh p0 (pf_X2_isHost_2 kh p0 f) (nI i) = _
    unfold pf_X2_isHost_2b
    rw [if_pos ((kv_ge8 (by omega)).mpr (by omega))]
    rfl
  | succ k ih =>
    intro f i hi hf
    obtain ⟨f, rfl⟩ : ∃ g, f = g + 1 := ⟨f - 1, by omega⟩
    show pf_X2_isHost_2b kh p0 (pf_X2_isHost_2 kh p0 f) (nI i) = _
    unfold pf_X2_isHost_2b kv_T
    rw [if_neg (fun c => by have := (kv_ge8 (by omega)).mp c; omega), kv_gN (by omega) (by omega), nI_clamp (by omega), nI_1, ih f (i + 1) (by omega) (by omega)]
    by_cases h : kh i = p0
    · simp [kv_any, h]
    · simp [kv_any, h]
def kv_mv (kh : Nat → Int32) (p0 p1 : Int32) : Nat := if kv_iv p0 0 7 = true then if p1 = -1 then 0 else if kv_iv p1 0 7 = true then if p0 = p1 then 2 else if kv_any (fun j => decide (kh j = p0)) 0 8 = true then 3 else if kh p1.toNatClampNeg = -1 then 0 else 3 else 1 else 1
theorem kv_FS : kv_F = 69999 + 1 := rfl
theorem q_mv2 (kh : Nat → Int32) (p0 p1 : Int32) : pf_X2_requireMovable kh p0 p1 = if kv_mv kh p0 p1 = 0 then some (.inl ()) else some (.inr (kv_mv kh p0 p1)) := by
  unfold pf_X2_requireMovable kv_mv pf_X2_isHost kv_T
  rw [q_M, q_M, show pf_X2_isHost_2 kh p0 kv_F 0 = _ from q_isH2 kh p0 8 kv_F 0 (by decide) (by decide)]
  cases c1 : kv_iv p0 0 7
  · simp [kv_x0]
  · by_cases c2 : p1 = -1
    · simp [kv_x0, c2]
    · cases c3 : kv_iv p1 0 7
      · simp [kv_x0, c2]
      · by_cases c4 : p0 = p1
        · simp [kv_x0, c2, c4]
        · cases c5 : kv_any (fun j => decide (kh j = p0)) 0 8
          · by_cases c6 : kh p1.toNatClampNeg = -1
            · simp [kv_x0, kv_q1, c2, c4, c6, kv_g8 c3]
            · simp [kv_x0, kv_q1, c2, c4, c6, kv_g8 c3]
          · simp [kv_x0, kv_q1, c2, c4]
theorem kv_mv_c {kh ho : Nat → Int32} (h : ∀ i, i < 8 → kh i = ho i) (p0 p1 : Int32) : kv_mv kh p0 p1 = kv_mv ho p0 p1 := by
  unfold kv_mv
  rw [kv_any_c (f := fun j => decide (kh j = p0)) (g := fun j => decide (ho j = p0)) 8 0 (fun j _ hj => by rw [h j (by omega)])]
  cases c3 : kv_iv p1 0 7
  · simp
  · rw [h _ (kv_c8 c3)]
theorem kv_mv_le (kh : Nat → Int32) (p0 p1 : Int32) : kv_mv kh p0 p1 ≤ 3 := by
  unfold kv_mv
  repeat' split
  all_goals decide
theorem kv_mv_0 {kh : Nat → Int32} {p0 p1 : Int32} (h : kv_mv kh p0 p1 = 0) : kv_iv p0 0 7 = true ∧ (p1 = -1 ∨ kv_iv p1 0 7 = true) := by
  unfold kv_mv at h
  cases c1 : kv_iv p0 0 7
  · simp [c1] at h
  · refine ⟨rfl, ?_⟩
    by_cases c2 : p1 = -1
    · exact Or.inl c2
    · cases c3 : kv_iv p1 0 7
      · simp [c1, c2, c3] at h
      · exact Or.inr rfl
theorem kv_mv_b {kh : Nat → Int32} {p0 p1 : Int32} (h : kv_mv kh p0 p1 = 0) : -1 ≤ p1 ∧ p1 ≤ 7 := by
  rcases (kv_mv_0 h).2 with e | e
  · subst e; decide
  · have := kv_ivI e
    simp only [Int32.le_iff_toInt_le, kv_i0, kv_i7, kv_in1] at *
    omega
end KVP2


section KVP3
theorem kv_or32 {a b : Nat} (ha : a < 2 ^ 31) (hb : b < 2 ^ 31) : nI a ||| nI b = nI (a ||| b) := by
  have h : a ||| b < 2 ^ 31 := Nat.or_lt_two_pow ha hb
  apply Int32.toBitVec_inj.mp
  apply BitVec.eq_of_toNat_eq
  rw [Int32.toBitVec_or, BitVec.toNat_or, pk_tn (by omega), pk_tn (by omega), pk_tn (by omega)]
theorem kv_bit {i : Nat} (h : i < 8) : (1 : Int32) <<< (nI i &&& 31) = nI (2 ^ i) :=
  kv_8 (P := fun i => (1 : Int32) <<< (nI i &&& 31) = nI (2 ^ i)) (by decide) (by decide) (by decide) (by decide) (by decide) (by decide) (by decide) (by decide) h
theorem kv_p2 {i : Nat} (h : i < 8) : 2 ^ i < 256 := Nat.pow_lt_pow_right (a := 2) (by decide) h
theorem kv_orb {a b : Nat} (ha : a < 256) (hb : b < 256) : a ||| b < 256 := Nat.or_lt_two_pow (n := 8) ha hb
theorem kv_ivN {i : Nat} (h : i < 8) : kv_iv (nI i) 0 7 = true := by
  rw [kv_ivT, nI_toInt (by omega), kv_i0, kv_i7]
  omega
def kv_cb (fo : Nat → Nat → Int32) (qp qm qv hs : Nat → Int32) (r : Nat) (p1 : Int32) (i : Nat) : Bool :=
  (decide (nI i = p1) || (decide (qm r = 1) && decide (hs i = p1))) && (!decide (fo i (qp r).toNatClampNeg ≤ 0) && !decide (qv r < fo i (qp r).toNatClampNeg))
def kv_or (b : Nat → Bool) : Nat → Nat → Nat → Nat
  | _, 0, x => x
  | i, k + 1, x => kv_or b (i + 1) k (if b i = true then x ||| 2 ^ i else x)
theorem kv_or_lt (b : Nat → Bool) : ∀ (k i x : Nat), i + k = 8 → x < 256 → kv_or b i k x < 256 := by
  intro k
  induction k with
  | zero => intro i x _ hx; exact hx
  | succ k ih =>
    intro i x hi hx
    unfold kv_or
    refine ih (i + 1) _ (by omega) ?_
    split
    · exact kv_orb hx (kv_p2 (by omega))
    · exact hx
theorem q_cov2 (fo : Nat → Nat → Int32) (n : Nat) (qp qm qv hs : Nat → Int32) (r : Nat) (p1 : Int32) (hq : kv_iv (qp r) 0 3 = true) : ∀ (k f i x : Nat), i + k = 8 → k < f → x < 256 → pf_X2_coverOn_6 fo n qp qm qv r p1 hs f (nI x) (nI i) = some (nI (kv_or (kv_cb fo qp qm qv hs r p1) i k x)) := by
  intro k
  induction k with
  | zero =>
    intro f i x hi hf hx
    obtain ⟨f, rfl⟩ : ∃ g, f = g + 1 := ⟨f - 1, by omega⟩
    show pf_X2_coverOn_6b fo n qp qm qv r p1 hs (pf_X2_coverOn_6 fo n qp qm qv r p1 hs f) (nI x) (nI i) = _
    unfold pf_X2_coverOn_6b
    rw [if_pos ((kv_ge8 (by omega)).mpr (by omega))]
    rfl
  | succ k ih =>
    intro f i x hi hf hx
    obtain ⟨f, rfl⟩ : ∃ g, f = g + 1 := ⟨f - 1, by omega⟩
    show pf_X2_coverOn_6b fo n qp qm qv r p1 hs (pf_X2_coverOn_6 fo n qp qm qv r p1 hs f) (nI x) (nI i) = _
    have hi8 : i < 8 := by omega
    have hb := kv_bit hi8
    have hp := kv_p2 hi8
    have hc : (nI i).toNatClampNeg = i := nI_clamp (by omega)
    have h1 := ih f (i + 1) x (by omega) (by omega) hx
    have h2 := ih f (i + 1) (x ||| 2 ^ i) (by omega) (by omega) (kv_orb hx hp)
    have ho := kv_or32 (a := x) (b := 2 ^ i) (by omega) (by omega)
    unfold pf_X2_coverOn_6b pf_X2_coverOn_40 kv_T
    rw [if_neg (fun c => by have := (kv_ge8 (by omega)).mp c; omega)]
    simp only [kv_g8 (kv_ivN hi8), kv_g4 hq, hc, nI_1, hb, ho, h1, h2]
    rw [show kv_or (kv_cb fo qp qm qv hs r p1) i (k + 1) x = kv_or (kv_cb fo qp qm qv hs r p1) (i + 1) k (if kv_cb fo qp qm qv hs r p1 i = true then x ||| 2 ^ i else x) from rfl]
    by_cases e4 : fo i (qp r).toNatClampNeg ≤ 0
    · have hcb : kv_cb fo qp qm qv hs r p1 i = false := by simp [kv_cb, e4]
      by_cases e1 : nI i = p1 <;> by_cases e2 : qm r = 1 <;> by_cases e3 : hs i = p1 <;> simp [e1, e4, e2, e3, hcb]
    · by_cases e5 : qv r < fo i (qp r).toNatClampNeg
      · have hcb : kv_cb fo qp qm qv hs r p1 i = false := by simp [kv_cb, e5]
        by_cases e1 : nI i = p1 <;> by_cases e2 : qm r = 1 <;> by_cases e3 : hs i = p1 <;> simp [e1, e4, e5, e2, e3, hcb]
      · have hcb : kv_cb fo qp qm qv hs r p1 i = (decide (nI i = p1) || (decide (qm r = 1) && decide (hs i = p1))) := by simp only [kv_cb, decide_eq_false e4, decide_eq_false e5]; simp
        by_cases e1 : nI i = p1 <;> by_cases e2 : qm r = 1 <;> by_cases e3 : hs i = p1 <;> simp [e1, e4, e5, e2, e3, hcb]
/-- what a right covers from a machine -/
def kv_cv (fo : Nat → Nat → Int32) (qp qm qv hs : Nat → Int32) (r : Nat) (p1 : Int32) : Nat := kv_or (kv_cb fo qp qm qv hs r p1) 0 8 0
theorem kv_cv_lt (fo : Nat → Nat → Int32) (qp qm qv hs : Nat → Int32) (r : Nat) (p1 : Int32) : kv_cv fo qp qm qv hs r p1 < 256 := kv_or_lt _ 8 0 0 rfl (by decide)
theorem q_cv2 (fo : Nat → Nat → Int32) (n : Nat) (qp qm qv hs : Nat → Int32) (r : Nat) (p1 : Int32) (hq : kv_iv (qp r) 0 3 = true) : pf_X2_coverOn fo n qp qm qv r p1 hs = some (nI (kv_cv fo qp qm qv hs r p1)) := q_cov2 fo n qp qm qv hs r p1 hq 8 kv_F 0 0 rfl (by decide) (by decide)
end KVP3


section KVP4
theorem kv_leN {n i : Nat} (hn : n ≤ 12) (hi : i ≤ 12) : nI n ≤ nI i ↔ n ≤ i := nI_leI (by omega) (by omega)
theorem kv_lN {i n : Nat} (hn : n ≤ 12) (h : i < n) {α : Type} (k : Option α) : kv_L (nI i) n k = k := kv_lT hn (by rw [nI_toInt (by omega)]; omega) (by rw [nI_toInt (by omega)]; omega)
theorem kv_n9 {x : Int32} (h : x ≤ 9) (h2 : ¬ x = 9) : x < 9 := by
  rw [Int32.lt_iff_toInt_lt, kv_i9]
  rw [Int32.le_iff_toInt_le, kv_i9] at h
  have : x.toInt ≠ 9 := fun c => h2 (Int32.toInt_inj.mp (c.trans kv_i9.symm))
  omega
theorem kv_up9 {x : Int32} (h : 1 ≤ x) (h2 : x < 9) : 1 ≤ x + 1 ∧ x + 1 ≤ 9 := by
  simp only [Int32.lt_iff_toInt_lt, Int32.le_iff_toInt_le, kv_i9, kv_i1] at *
  rw [kv_addI (by rw [kv_i1]; omega) (by rw [kv_i1]; omega), kv_i1]
  omega
end KVP4
