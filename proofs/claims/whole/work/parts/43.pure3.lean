section KVP3
theorem kv_or32 {a b : Nat} (ha : a < 2 ^ 31) (hb : b < 2 ^ 31) : nI a ||| nI b = nI (a ||| b) := by
  have h : a ||| b < 2 ^ 31 := Nat.or_lt_two_pow ha hb
  apply Int32.toBitVec_inj.mp
  apply BitVec.eq_of_toNat_eq
  rw [Int32.toBitVec_or, BitVec.toNat_or, pk_tn (by omega), pk_tn (by omega), pk_tn (by omega)]
theorem kv_bit {i : Nat} (h : i < 8) : (1 : Int32) <<< (nI i &&& 31) = nI (2 ^ i) :=
  kv_8 (P := fun i => (1 : Int32) <<< (nI i &&& 31) = nI (2 ^ i)) (by decide) (by decide) (by decide) (by decide) (by decide) (by decide) (by decide) (by decide) h
theorem kv_p2 {i : Nat} (h : i < 8) : 2 ^ i < 256 := Nat.pow_lt_pow_right (a := 2) (by decide) h
theorem kv_orb {a b : Nat} (ha : a < 256) (hb : b < 256) : a ||| b < 256 := Nat.or_lt_two_pow (n := 8) ha hb
theorem kv_ivN {i : Nat} (h : i < 8) : kv_iv (nI i) 0 7 = true := by
  rw [kv_ivT, nI_toInt (by omega), kv_i0, kv_i7]
  omega
def kv_cb (fo : Nat → Nat → Int32) (qp qm qv hs : Nat → Int32) (r : Nat) (p1 : Int32) (i : Nat) : Bool :=
  (decide (nI i = p1) || (decide (qm r = 1) && decide (hs i = p1))) && (!decide (fo i (qp r).toNatClampNeg ≤ 0) && !decide (qv r < fo i (qp r).toNatClampNeg))
def kv_or (b : Nat → Bool) : Nat → Nat → Nat → Nat
  | _, 0, x => x
  | i, k + 1, x => kv_or b (i + 1) k (if b i = true then x ||| 2 ^ i else x)
theorem kv_or_lt (b : Nat → Bool) : ∀ (k i x : Nat), i + k = 8 → x < 256 → kv_or b i k x < 256 := by
  intro k
  induction k with
  | zero => intro i x _ hx; exact hx
  | succ k ih =>
    intro i x hi hx
    unfold kv_or
    refine ih (i + 1) _ (by omega) ?_
    split
    · exact kv_orb hx (kv_p2 (by omega))
    · exact hx
theorem q_cov2 (fo : Nat → Nat → Int32) (n : Nat) (qp qm qv hs : Nat → Int32) (r : Nat) (p1 : Int32) (hq : kv_iv (qp r) 0 3 = true) : ∀ (k f i x : Nat), i + k = 8 → k < f → x < 256 → pf_X2_coverOn_6 fo n qp qm qv r p1 hs f (nI x) (nI i) = some (nI (kv_or (kv_cb fo qp qm qv hs r p1) i k x)) := by
  intro k
  induction k with
  | zero =>
    intro f i x hi hf hx
    obtain ⟨f, rfl⟩ : ∃ g, f = g + 1 := ⟨f - 1, by omega⟩
    show pf_X2_coverOn_6b fo n qp qm qv r p1 hs (pf_X2_coverOn_6 fo n qp qm qv r p1 hs f) (nI x) (nI i) = _
    unfold pf_X2_coverOn_6b
    rw [if_pos ((kv_ge8 (by omega)).mpr (by omega))]
    rfl
  | succ k ih =>
    intro f i x hi hf hx
    obtain ⟨f, rfl⟩ : ∃ g, f = g + 1 := ⟨f - 1, by omega⟩
    show pf_X2_coverOn_6b fo n qp qm qv r p1 hs (pf_X2_coverOn_6 fo n qp qm qv r p1 hs f) (nI x) (nI i) = _
    have hi8 : i < 8 := by omega
    have hb := kv_bit hi8
    have hp := kv_p2 hi8
    have hc : (nI i).toNatClampNeg = i := nI_clamp (by omega)
    have h1 := ih f (i + 1) x (by omega) (by omega) hx
    have h2 := ih f (i + 1) (x ||| 2 ^ i) (by omega) (by omega) (kv_orb hx hp)
    have ho := kv_or32 (a := x) (b := 2 ^ i) (by omega) (by omega)
    unfold pf_X2_coverOn_6b pf_X2_coverOn_40 kv_T
    rw [if_neg (fun c => by have := (kv_ge8 (by omega)).mp c; omega)]
    simp only [kv_g8 (kv_ivN hi8), kv_g4 hq, hc, nI_1, hb, ho, h1, h2]
    rw [show kv_or (kv_cb fo qp qm qv hs r p1) i (k + 1) x = kv_or (kv_cb fo qp qm qv hs r p1) (i + 1) k (if kv_cb fo qp qm qv hs r p1 i = true then x ||| 2 ^ i else x) from rfl]
    by_cases e4 : fo i (qp r).toNatClampNeg ≤ 0
    · have hcb : kv_cb fo qp qm qv hs r p1 i = false := by simp [kv_cb, e4]
      by_cases e1 : nI i = p1 <;> by_cases e2 : qm r = 1 <;> by_cases e3 : hs i = p1 <;> simp [e1, e4, e2, e3, hcb]
    · by_cases e5 : qv r < fo i (qp r).toNatClampNeg
      · have hcb : kv_cb fo qp qm qv hs r p1 i = false := by simp [kv_cb, e5]
        by_cases e1 : nI i = p1 <;> by_cases e2 : qm r = 1 <;> by_cases e3 : hs i = p1 <;> simp [e1, e4, e5, e2, e3, hcb]
      · have hcb : kv_cb fo qp qm qv hs r p1 i = (decide (nI i = p1) || (decide (qm r = 1) && decide (hs i = p1))) := by simp only [kv_cb, decide_eq_false e4, decide_eq_false e5]; simp
        by_cases e1 : nI i = p1 <;> by_cases e2 : qm r = 1 <;> by_cases e3 : hs i = p1 <;> simp [e1, e4, e5, e2, e3, hcb]
theorem q_cov3 (fo : Nat → Nat → Int32) (qp qm qv hs : Nat → Int32) (r : Nat) (ho ve rp rm ro : Nat → Int32) (p0 p1 : Int32) (hr : p0.toNatClampNeg = r) (hg : ∀ k : Option Int32, kv_G p0 12 k = k) (hq : kv_iv (qp r) 0 3 = true) (a1 : rp r = qp r) (a2 : rm r = qm r) (a3 : ro r = qv r) (a4 : ∀ i, i < 8 → ho i = hs i) (a5 : ∀ i, i < 8 → ve (4 * i + (qp r).toNatClampNeg) = fo i (qp r).toNatClampNeg) : ∀ (k f i x : Nat), i + k = 8 → k < f → x < 256 → pf_X3_covered_5 ho ve rp rm ro p0 p1 f (nI x) (nI i) = some (nI (kv_or (kv_cb fo qp qm qv hs r p1) i k x)) := by
  intro k
  induction k with
  | zero =>
    intro f i x hi hf hx
    obtain ⟨f, rfl⟩ : ∃ g, f = g + 1 := ⟨f - 1, by omega⟩
    show pf_X3_covered_5b ho ve rp rm ro p0 p1 (pf_X3_covered_5 ho ve rp rm ro p0 p1 f) (nI x) (nI i) = _
    unfold pf_X3_covered_5b
    rw [if_pos ((kv_ge8 (by omega)).mpr (by omega))]
    rfl
  | succ k ih =>
    intro f i x hi hf hx
    obtain ⟨f, rfl⟩ : ∃ g, f = g + 1 := ⟨f - 1, by omega⟩
    show pf_X3_covered_5b ho ve rp rm ro p0 p1 (pf_X3_covered_5 ho ve rp rm ro p0 p1 f) (nI x) (nI i) = _
    have hi8 : i < 8 := by omega
    have hb := kv_bit hi8
    have hp := kv_p2 hi8
    have hc : (nI i).toNatClampNeg = i := nI_clamp (by omega)
    have h1 := ih f (i + 1) x (by omega) (by omega) hx
    have h2 := ih f (i + 1) (x ||| 2 ^ i) (by omega) (by omega) (kv_orb hx hp)
    have hor := kv_or32 (a := x) (b := 2 ^ i) (by omega) (by omega)
    have hz : nI x ||| 0 = nI x := by rw [show (0 : Int32) = nI 0 from rfl, kv_or32 (by omega) (by omega), Nat.or_zero]
    have hv : (4 * nI i + qp r).toNatClampNeg = 4 * i + (qp r).toNatClampNeg := by rw [kv_c32 (kv_ivN hi8) hq, hc]
    unfold pf_X3_covered_5b pf_X3_covered_44 pf_X3_covered_94 kv_T
    rw [if_neg (fun c => by have := (kv_ge8 (by omega)).mp c; omega)]
    simp only [kv_g8 (kv_ivN hi8), hg, hr, a1, a2, a3, kv_g32 (kv_ivN hi8) hq, hv, a5 i hi8, hc, a4 i hi8, nI_1, hb, hor, hz, h1, h2]
    rw [show kv_or (kv_cb fo qp qm qv hs r p1) i (k + 1) x = kv_or (kv_cb fo qp qm qv hs r p1) (i + 1) k (if kv_cb fo qp qm qv hs r p1 i = true then x ||| 2 ^ i else x) from rfl]
    by_cases e4 : fo i (qp r).toNatClampNeg ≤ 0
    · have hcb : kv_cb fo qp qm qv hs r p1 i = false := by simp [kv_cb, e4]
      by_cases e1 : nI i = p1 <;> by_cases e2 : qm r = 1 <;> by_cases e3 : hs i = p1 <;> simp [e1, e4, e2, e3, hcb]
    · by_cases e5 : qv r < fo i (qp r).toNatClampNeg
      · have hcb : kv_cb fo qp qm qv hs r p1 i = false := by simp [kv_cb, e5]
        by_cases e1 : nI i = p1 <;> by_cases e2 : qm r = 1 <;> by_cases e3 : hs i = p1 <;> simp [e1, e4, e5, e2, e3, hcb]
      · have hcb : kv_cb fo qp qm qv hs r p1 i = (decide (nI i = p1) || (decide (qm r = 1) && decide (hs i = p1))) := by simp only [kv_cb, decide_eq_false e4, decide_eq_false e5]; simp
        by_cases e1 : nI i = p1 <;> by_cases e2 : qm r = 1 <;> by_cases e3 : hs i = p1 <;> simp [e1, e4, e5, e2, e3, hcb]
/-- what a right covers from a machine -/
def kv_cv (fo : Nat → Nat → Int32) (qp qm qv hs : Nat → Int32) (r : Nat) (p1 : Int32) : Nat := kv_or (kv_cb fo qp qm qv hs r p1) 0 8 0
theorem kv_cv_lt (fo : Nat → Nat → Int32) (qp qm qv hs : Nat → Int32) (r : Nat) (p1 : Int32) : kv_cv fo qp qm qv hs r p1 < 256 := kv_or_lt _ 8 0 0 rfl (by decide)
theorem q_cv2 (fo : Nat → Nat → Int32) (n : Nat) (qp qm qv hs : Nat → Int32) (r : Nat) (p1 : Int32) (hq : kv_iv (qp r) 0 3 = true) : pf_X2_coverOn fo n qp qm qv r p1 hs = some (nI (kv_cv fo qp qm qv hs r p1)) := q_cov2 fo n qp qm qv hs r p1 hq 8 kv_F 0 0 rfl (by decide) (by decide)
theorem q_cv3 (fo : Nat → Nat → Int32) (qp qm qv hs : Nat → Int32) (r : Nat) (ho ve rp rm ro : Nat → Int32) (p0 p1 : Int32) (hr : p0.toNatClampNeg = r) (hg : ∀ k : Option Int32, kv_G p0 12 k = k) (hq : kv_iv (qp r) 0 3 = true) (a1 : rp r = qp r) (a2 : rm r = qm r) (a3 : ro r = qv r) (a4 : ∀ i, i < 8 → ho i = hs i) (a5 : ∀ i, i < 8 → ve (4 * i + (qp r).toNatClampNeg) = fo i (qp r).toNatClampNeg) : pf_X3_covered ho ve rp rm ro p0 p1 = some (nI (kv_cv fo qp qm qv hs r p1)) := q_cov3 fo qp qm qv hs r ho ve rp rm ro p0 p1 hr hg hq a1 a2 a3 a4 a5 8 kv_F 0 0 rfl (by decide) (by decide)
end KVP3
