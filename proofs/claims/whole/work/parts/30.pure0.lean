/-- the keeper and the reference hold the same -/
def kv_inv (kc kh : Nat → Int32) (fo : Nat → Nat → Int32) (kl kp : Nat → Int32) (dy : Int32) (n : Nat) (qp qm ql qv qc qe sw : Nat → Int32) (nw : Int32) (co ho ve la pr : Nat → Int32) (rg : Int32) (rp rm rc re ro rl mtk msp : Nat → Int32) : Prop :=
  (n ≤ 12 ∧ rg = nI n ∧ dy = nw ∧ mtk 0 = 0 ∧ msp 0 = 0 ∧ sw 0 = 0) ∧
  (∀ i, i < 8 → kc i = co i ∧ kh i = ho i ∧ 1 ≤ kc i ∧ kc i ≤ 64 ∧ (-1) ≤ kh i ∧ kh i ≤ 7) ∧
  (∀ i j, i < 8 → j < 4 → fo i j = ve (4 * i + j) ∧ 0 ≤ fo i j) ∧
  (∀ j, j < 4 → kl j = la j ∧ kp j = pr j ∧ 1 ≤ kl j ∧ kl j ≤ 9 ∧ 0 ≤ kp j ∧ kp j ≤ 1000) ∧
  (∀ i, i < n → qp i = rp i ∧ qm i = rm i ∧ ql i = rl i ∧ qv i = ro i ∧ qc i = rc i ∧ qe i = re i ∧ 0 ≤ qp i ∧ qp i ≤ 3 ∧ 0 ≤ qm i ∧ qm i ≤ 1 ∧ 0 ≤ qc i ∧ 0 ≤ qe i ∧ qc i + qe i ≤ 500 ∧ qc i ≤ 500 ∧ qe i ≤ 500) ∧
  (∀ i, n ≤ i → i < 12 → re i = 0)

section KVP0
def kv_iv (x a b : Int32) : Bool := decide (a ≤ x) && decide (x ≤ b)
theorem kv_ivT {x a b : Int32} : kv_iv x a b = true ↔ a.toInt ≤ x.toInt ∧ x.toInt ≤ b.toInt := by
  unfold kv_iv
  rw [Bool.and_eq_true, decide_eq_true_iff, decide_eq_true_iff, Int32.le_iff_toInt_le, Int32.le_iff_toInt_le]
theorem kv_ivF {x a b : Int32} : kv_iv x a b = false ↔ ¬ (a.toInt ≤ x.toInt ∧ x.toInt ≤ b.toInt) := by
  rw [← kv_ivT, Bool.not_eq_true]
theorem kv_i0 : (0 : Int32).toInt = 0 := rfl
theorem kv_i1 : (1 : Int32).toInt = 1 := rfl
theorem kv_i3 : (3 : Int32).toInt = 3 := rfl
theorem kv_i4 : (4 : Int32).toInt = 4 := rfl
theorem kv_i7 : (7 : Int32).toInt = 7 := rfl
theorem kv_i8 : (8 : Int32).toInt = 8 := rfl
theorem kv_i9 : (9 : Int32).toInt = 9 := rfl
theorem kv_i12 : (12 : Int32).toInt = 12 := rfl
theorem kv_in1 : (-1 : Int32).toInt = -1 := rfl
theorem kv_i64 : (64 : Int32).toInt = 64 := rfl
theorem kv_i500 : (500 : Int32).toInt = 500 := rfl
theorem kv_in500 : (-500 : Int32).toInt = -500 := rfl
theorem kv_i1000 : (1000 : Int32).toInt = 1000 := rfl
theorem q_rg (p0 p1 p2 : Int32) : pf_X2_requireRange p0 p1 p2 = if kv_iv p0 p1 p2 = true then some (.inl ()) else some (.inr 2) := by
  unfold pf_X2_requireRange
  have h := @kv_ivT p0 p1 p2
  simp only [Int32.lt_iff_toInt_lt, Int32.le_iff_toInt_le]
  by_cases a : p0.toInt < p1.toInt
  · rw [if_pos a, if_neg (fun c => by have := h.mp c; omega)]
  · rw [if_neg a]
    by_cases b : p0.toInt ≤ p2.toInt
    · rw [if_pos b, if_pos (h.mpr ⟨by omega, b⟩)]
    · rw [if_neg b, if_neg (fun c => b (h.mp c).2)]
theorem q_M (p0 : Int32) : pf_X2_requireMachine p0 = if kv_iv p0 0 7 = true then some (.inl ()) else some (.inr 1) := by
  unfold pf_X2_requireMachine
  have h := @kv_ivT p0 0 7
  have h8 := kv_i8; have h0 := kv_i0; have h7 := kv_i7
  simp only [Int32.lt_iff_toInt_lt]
  by_cases a : p0.toInt < (0 : Int32).toInt
  · rw [if_pos a, if_neg (fun c => by have := h.mp c; omega)]
  · rw [if_neg a]
    by_cases b : p0.toInt < (8 : Int32).toInt
    · rw [if_pos b, if_pos (h.mpr ⟨by omega, by omega⟩)]
    · rw [if_neg b, if_neg (fun c => by have := (h.mp c).2; omega)]
theorem q_P (p0 : Int32) : pf_X2_requireProduct p0 = if kv_iv p0 0 3 = true then some (.inl ()) else some (.inr 1) := by
  unfold pf_X2_requireProduct
  have h := @kv_ivT p0 0 3
  have h8 := kv_i4; have h0 := kv_i0; have h7 := kv_i3
  simp only [Int32.lt_iff_toInt_lt]
  by_cases a : p0.toInt < (0 : Int32).toInt
  · rw [if_pos a, if_neg (fun c => by have := h.mp c; omega)]
  · rw [if_neg a]
    by_cases b : p0.toInt < (4 : Int32).toInt
    · rw [if_pos b, if_pos (h.mpr ⟨by omega, by omega⟩)]
    · rw [if_neg b, if_neg (fun c => by have := (h.mp c).2; omega)]
theorem q_in (p0 p1 p2 : Int32) : pf_X3_in p0 p1 p2 = if kv_iv p0 p1 p2 = true then some 1 else some 0 := by
  unfold pf_X3_in
  have h := @kv_ivT p0 p1 p2
  simp only [Int32.lt_iff_toInt_lt]
  by_cases a : p0.toInt < p1.toInt
  · rw [if_pos a, if_neg (fun c => by have := h.mp c; omega)]
  · rw [if_neg a]
    by_cases b : p2.toInt < p0.toInt
    · rw [if_pos b, if_neg (fun c => by have := (h.mp c).2; omega)]
    · rw [if_neg b, if_pos (h.mpr ⟨by omega, by omega⟩)]
theorem q_bin (x : Int32) (a b : Int32) : kv_q1 (pf_X3_in x a b) (fun r => kv_B r (some r)) = if kv_iv x a b = true then some 1 else some 0 := by
  rw [q_in]
  by_cases h : kv_iv x a b = true
  · rw [if_pos h]; rfl
  · rw [if_neg h]; rfl
theorem q_isM (x : Int32) : pf_X3_isMachine x = if kv_iv x 0 7 = true then some 1 else some 0 := q_bin x 0 7
theorem q_isP (x : Int32) : pf_X3_isProduct x = if kv_iv x 0 3 = true then some 1 else some 0 := q_bin x 0 3
theorem q_isR (rg x : Int32) : pf_X3_isRight rg x = if kv_iv x 0 (rg - 1) = true then some 1 else some 0 := q_bin x 0 (rg - 1)
theorem kv_nIm {n : Nat} (h : n ≤ 12) : (nI n - 1).toInt = (n : Int) - 1 := by
  rw [show (1 : Int32) = nI 1 from rfl, pk_sub_toInt (by omega) (by decide)]
  rfl
theorem kv_clamp (x : Int32) : x.toNatClampNeg = x.toInt.toNat := rfl
theorem kv_gT {α : Type} {x : Int32} {n : Nat} {k : Option α} (h0 : 0 ≤ x.toInt) (h1 : x.toInt < n) : kv_G x n k = k := by
  unfold kv_G
  rw [if_neg]
  intro c
  rcases c with c | c
  · rw [Int32.lt_iff_toInt_lt, kv_i0] at c; omega
  · rw [kv_clamp] at c; omega
theorem kv_lT {α : Type} {x : Int32} {n : Nat} {k : Option α} (hn : n ≤ 12) (h0 : 0 ≤ x.toInt) (h1 : x.toInt < n) : kv_L x n k = k := by
  unfold kv_L
  rw [if_neg]
  intro c
  rcases c with c | c | c
  · rw [Int32.lt_iff_toInt_lt, kv_i0] at c; omega
  · rw [kv_clamp] at c; omega
  · omega
theorem kv_g8 {x : Int32} (h : kv_iv x 0 7 = true) {α : Type} (k : Option α) : kv_G x 8 k = k := by
  obtain ⟨a, b⟩ := kv_ivT.mp h
  rw [kv_i0] at a; rw [kv_i7] at b
  exact kv_gT a (by omega)
theorem kv_g4 {x : Int32} (h : kv_iv x 0 3 = true) {α : Type} (k : Option α) : kv_G x 4 k = k := by
  obtain ⟨a, b⟩ := kv_ivT.mp h
  rw [kv_i0] at a; rw [kv_i3] at b
  exact kv_gT a (by omega)
theorem kv_ivR {x : Int32} {n : Nat} (hn : n ≤ 12) (h : kv_iv x 0 (nI n - 1) = true) : 0 ≤ x.toInt ∧ x.toInt < n := by
  obtain ⟨a, b⟩ := kv_ivT.mp h
  rw [kv_i0] at a; rw [kv_nIm hn] at b
  exact ⟨a, by omega⟩
theorem kv_g12 {x : Int32} {n : Nat} (hn : n ≤ 12) (h : kv_iv x 0 (nI n - 1) = true) {α : Type} (k : Option α) : kv_G x 12 k = k := by
  obtain ⟨a, b⟩ := kv_ivR hn h
  exact kv_gT a (by omega)
theorem kv_c8 {x : Int32} (h : kv_iv x 0 7 = true) : x.toNatClampNeg < 8 := by
  obtain ⟨a, b⟩ := kv_ivT.mp h
  rw [kv_i0] at a; rw [kv_i7] at b
  rw [kv_clamp]; omega
theorem kv_c4 {x : Int32} (h : kv_iv x 0 3 = true) : x.toNatClampNeg < 4 := by
  obtain ⟨a, b⟩ := kv_ivT.mp h
  rw [kv_i0] at a; rw [kv_i3] at b
  rw [kv_clamp]; omega
theorem kv_cR {x : Int32} {n : Nat} (hn : n ≤ 12) (h : kv_iv x 0 (nI n - 1) = true) : x.toNatClampNeg < n := by
  obtain ⟨a, b⟩ := kv_ivR hn h
  rw [kv_clamp]; omega
theorem q_rA {n : Nat} (hn : n ≤ 12) (x : Int32) : pf_X2_rightAt n x = if kv_iv x 0 (nI n - 1) = true then some (.inl x.toNatClampNeg) else some (.inr 1) := by
  unfold pf_X2_rightAt
  have h := @kv_ivT x 0 (nI n - 1)
  rw [kv_i0, kv_nIm hn] at h
  have hN : (nI n).toInt = n := nI_toInt (by omega)
  simp only [Int32.lt_iff_toInt_lt, kv_i0, hN]
  by_cases a : x.toInt < 0
  · rw [if_pos a, if_neg (fun c => by have := h.mp c; omega)]
  · rw [if_neg a]
    by_cases b : x.toInt < n
    · rw [if_pos b, if_pos (h.mpr ⟨by omega, by omega⟩), kv_lT hn (by omega) b]; rfl
    · rw [if_neg b, if_neg (fun c => by have := (h.mp c).2; omega)]
theorem kv_mp {x y : Int32} (hx : kv_iv x 0 7 = true) (hy : kv_iv y 0 3 = true) : (4 * x + y).toInt = 4 * x.toInt + y.toInt := by
  obtain ⟨a, b⟩ := kv_ivT.mp hx
  obtain ⟨c, d⟩ := kv_ivT.mp hy
  rw [kv_i0] at a c; rw [kv_i7] at b; rw [kv_i3] at d
  rw [Int32.toInt_add, Int32.toInt_mul, kv_i4]
  have e1 : (4 * x.toInt).bmod (2 ^ 32) = 4 * x.toInt := Int.bmod_eq_of_le (by omega) (by omega)
  rw [e1]
  exact Int.bmod_eq_of_le (by omega) (by omega)
theorem kv_g32 {x y : Int32} (hx : kv_iv x 0 7 = true) (hy : kv_iv y 0 3 = true) {α : Type} (k : Option α) : kv_G (4 * x + y) 32 k = k := by
  have e := kv_mp hx hy
  obtain ⟨a, b⟩ := kv_ivT.mp hx
  obtain ⟨c, d⟩ := kv_ivT.mp hy
  rw [kv_i0] at a c; rw [kv_i7] at b; rw [kv_i3] at d
  exact kv_gT (by omega) (by omega)
theorem kv_c32 {x y : Int32} (hx : kv_iv x 0 7 = true) (hy : kv_iv y 0 3 = true) : (4 * x + y).toNatClampNeg = 4 * x.toNatClampNeg + y.toNatClampNeg := by
  have e := kv_mp hx hy
  obtain ⟨a, b⟩ := kv_ivT.mp hx
  obtain ⟨c, d⟩ := kv_ivT.mp hy
  rw [kv_i0] at a c
  rw [kv_clamp, kv_clamp, kv_clamp, e]; omega
theorem kv_ivI {x a b : Int32} (h : kv_iv x a b = true) : a ≤ x ∧ x ≤ b := by
  rw [kv_ivT] at h
  exact ⟨Int32.le_iff_toInt_le.mpr h.1, Int32.le_iff_toInt_le.mpr h.2⟩
end KVP0
