section KVL42
theorem kv_S_c2 {t t' : Nat → Nat} {U V : Nat} : ∀ m, (∀ j, j < m → (if U.testBit j = true then t j else 0) = (if V.testBit j = true then t' j else 0)) → kv_S t U m = kv_S t' V m := by
  intro m
  induction m with
  | zero => intro _; rfl
  | succ m ih =>
    intro h
    unfold kv_S
    rw [ih (fun j hj => h j (by omega)), h m (by omega)]
theorem kv_m1bit : ∀ j, j < 32 → (-1 : Int32).toBitVec.getLsbD j = true := by decide +kernel
theorem kv_nIbit {h : Nat} (hh : h < 2 ^ 32) (j : Nat) : (nI h).toBitVec.getLsbD j = h.testBit j := by
  rw [← BitVec.testBit_toNat, pk_tn hh]
theorem kv_d_bit {h i : Nat} (hh : h < 2 ^ 32) (hi : i < 2 ^ 32) {j : Nat} (hj : j < 32) : (kv_d h i).testBit j = (h.testBit j && !i.testBit j) := by
  unfold kv_d
  rw [BitVec.testBit_toNat, Int32.toBitVec_and, BitVec.getLsbD_and, Int32.toBitVec_xor, BitVec.getLsbD_xor, kv_nIbit hh, kv_nIbit hi, kv_m1bit j hj, Bool.xor_true]
theorem kv_c31 : ∀ i, i < 32 → ∀ j, j < 5 → (31 - i).testBit j = !i.testBit j := by decide +kernel
theorem kv_S_pow : ∀ d, d < 32 → kv_S (fun j => 2 ^ j) d 5 = d := by decide +kernel
theorem kv_hs_bit (fo : Nat → Nat → Int32) (p j : Nat) (hj : j < 8) : (kv_hs fo p).testBit j = !decide (fo j p ≤ 0) := by
  unfold kv_hs
  rw [kv_or_bit, Nat.zero_testBit, decide_eq_true (Nat.zero_le j), decide_eq_true (show j < 0 + 8 by omega)]
  rfl
theorem kv_hs32 {fo : Nat → Nat → Int32} {p : Nat} (h5 : ∀ i, 5 ≤ i → i < 8 → fo i p = 0) : kv_hs fo p < 32 := by
  show kv_or _ 0 (5 + 3) 0 < 32
  rw [kv_or_split, kv_or_no 3 _ _ (fun i a b => by rw [h5 i (by omega) (by omega)]; decide)]
  exact kv_or_lt2 _ 5 5 0 0 (by omega) (by decide)
theorem kv_d32 {h i : Nat} (hh : h < 32) : kv_d h i < 32 := by
  unfold kv_d
  rw [Int32.toBitVec_and, BitVec.toNat_and, pk_tn (by omega)]
  exact Nat.lt_of_le_of_lt Nat.and_le_left hh
/-- the sum and the set that the law counts are the keeper's -/
theorem kv_sum_d {fo : Nat → Nat → Int32} {p : Nat} {w : Nat → Nat} (h5 : ∀ i, 5 ≤ i → i < 8 → fo i p = 0) (hw : ∀ j, fo j p ≤ 0 → w j = 0) {i : Nat} (hi : i < 32) : kv_S w (31 - i) 5 = kv_S w (kv_d (kv_hs fo p) i) 8 ∧ kv_S (fun j => if fo j p ≤ 0 then 0 else 2 ^ j) (31 - i) 5 = kv_d (kv_hs fo p) i := by
  have hh := kv_hs32 h5
  have hd : kv_d (kv_hs fo p) i < 32 := kv_d32 hh
  have bit : ∀ j, j < 5 → (kv_d (kv_hs fo p) i).testBit j = (!decide (fo j p ≤ 0) && !i.testBit j) := fun j hj => by
    rw [kv_d_bit (by omega) (by omega) (by omega), kv_hs_bit fo p j (by omega)]
  constructor
  · rw [kv_S_lo (show kv_d (kv_hs fo p) i < 2 ^ 7 by omega), kv_S_lo (show kv_d (kv_hs fo p) i < 2 ^ 6 by omega), kv_S_lo (show kv_d (kv_hs fo p) i < 2 ^ 5 by omega)]
    refine kv_S_c2 5 (fun j hj => ?_)
    rw [kv_c31 i hi j hj, bit j hj]
    by_cases c : fo j p ≤ 0
    · rw [hw j c, ite_self, ite_self]
    · rw [decide_eq_false c]; rfl
  · refine Eq.trans ?_ (kv_S_pow _ hd)
    refine kv_S_c2 5 (fun j hj => ?_)
    rw [kv_c31 i hi j hj, bit j hj]
    by_cases c : fo j p ≤ 0
    · rw [if_pos c, decide_eq_true c, ite_self, if_neg (by simp)]
    · rw [if_neg c, decide_eq_false c]; rfl
theorem kv_andbit : ∀ o, o < 32 → ∀ m, m < 5 → nI o &&& (1 <<< (nI m &&& 31)) = nI (if o.testBit m = true then 2 ^ m else 0) := by decide +kernel
theorem kv_pick_split (W d : Nat → Nat) (ok : Nat → Bool) : ∀ (k i m L : Nat), kv_pick W d ok i (k + m) L = kv_pick W d ok (i + k) m (kv_pick W d ok i k L) := by
  intro k
  induction k with
  | zero => intro i m L; rw [Nat.zero_add]; rfl
  | succ k ih =>
    intro i m L
    rw [show k + 1 + m = (k + m) + 1 by omega, kv_pick_S, kv_pick_S, ih, show i + 1 + k = i + (k + 1) by omega]
theorem kv_pick_no {W d : Nat → Nat} {ok : Nat → Bool} : ∀ (k i L : Nat), (∀ j, i ≤ j → j < i + k → ok j = false) → kv_pick W d ok i k L = L := by
  intro k
  induction k with
  | zero => intro i L _; rfl
  | succ k ih =>
    intro i L h
    rw [kv_pick_S, h i (Nat.le_refl i) (by omega), Bool.false_and, if_neg (by decide)]
    exact ih (i + 1) L (fun j a b => h j (by omega) (by omega))
section GAP
variable (lm lp lr : Nat → Int32) (kc : Nat → Int32) (fo : Nat → Nat → Int32) (kp qp qm qv qc hs : Nat → Int32) (n p : Nat)
/-- what the law's rows must hold of the keeper for a product -/
def u_P : Prop := n ≤ 10 ∧ p < 2 ∧ (∀ i, i < n → lr (6 * i) = qp i) ∧ (∀ i, i < n → qp i = nI p → u_R lm lr kc fo qp qm qv hs i p (qc i).toInt.toNat) ∧ (∀ i, i < n → 0 ≤ qc i ∧ qc i ≤ 500) ∧ (∀ i j, i < 5 → 5 ≤ j → j < 8 → ¬ hs i = nI j) ∧ (∀ i, i < 5 → lm (4 * i + 2 + p) = fo i p) ∧ (∀ i, 5 ≤ i → i < 8 → fo i p = 0) ∧ (∀ i, i < 5 → lm (4 * i) = kc i) ∧ (∀ i, i < 8 → 1 ≤ kc i ∧ kc i ≤ 64) ∧ lp (2 * p + 1) = kp p ∧ 0 ≤ kp p ∧ kp p ≤ 1000
theorem u_g6 (h : u_P lm lp lr kc fo kp qp qm qv qc hs n p) (lq : Nat → Int32) (h1 : lq 1 = nI n) : ∀ (k f i : Nat) (s : Int32) (R : Nat → Prop), i + k = n → k < f → (∀ S, S < 32 → (kv_bt s S = true ↔ R S)) → (∀ S, S < 256 → R S → S < 32) → ∃ s', pf_L_gap_6 lm lp lr (nI p) f s (nI i) lq = pf_L_gap_56 lm lp lr (nI p) kv_F s' 1073741824 31 lq ∧ (∀ S, S < 32 → (kv_bt s' S = true ↔ kv_reach (kv_use qp qc (nI p) (-1)) (kv_tk kc qm) (fun r j => kv_cv fo qp qm qv hs r (nI j)) (fun r => (qc r).toInt.toNat) i k R S)) ∧ ∀ S, S < 256 → kv_reach (kv_use qp qc (nI p) (-1)) (kv_tk kc qm) (fun r j => kv_cv fo qp qm qv hs r (nI j)) (fun r => (qc r).toInt.toNat) i k R S → S < 32 := by
  obtain ⟨a1, a2, a3, a4, a5, a6, a7, a8, a9, a10, a11, a12, a13⟩ := h
  intro k
  induction k with
  | zero =>
    intro f i s R hi hf hs1 hR
    obtain ⟨f, rfl⟩ : ∃ z, f = z + 1 := ⟨f - 1, by omega⟩
    refine ⟨s, ?_, hs1, hR⟩
    rw [pf_L_gap_6.eq_2]
    unfold pf_L_gap_6b
    rw [kv_gT (n := 3) (x := 1) (by decide) (by decide), kv_T_s, show ((1 : Int32).toNatClampNeg) = 1 from rfl, h1, if_pos ((nI_leI (by omega) (by omega)).mpr (by omega))]
  | succ k ih =>
    intro f i s R hi hf hs1 hR
    obtain ⟨f, rfl⟩ : ∃ z, f = z + 1 := ⟨f - 1, by omega⟩
    have hin : i < n := by omega
    have step : pf_L_gap_6 lm lp lr (nI p) (f + 1) s (nI i) lq = if qp i = nI p then kv_q1 (pf_L_spreads lm lr s (nI i)) (fun r_32 => pf_L_gap_6 lm lp lr (nI p) f r_32 (nI (i + 1)) lq) else pf_L_gap_6 lm lp lr (nI p) f s (nI (i + 1)) lq := by
      rw [pf_L_gap_6.eq_2]
      unfold pf_L_gap_6b pf_L_gap_40
      rw [kv_gT (n := 3) (x := 1) (by decide) (by decide), kv_T_s, show ((1 : Int32).toNatClampNeg) = 1 from rfl, h1, if_neg (fun q => by have := (nI_leI (by omega) (by omega)).mp q; omega), kv_6i, kv_gN (show 6 * i < 60 by omega) (by omega), kv_T_s, nI_clamp (show 6 * i < 2 ^ 31 by omega), a3 i hin, nI_1]
    have hu := kv_use_t (qp := qp) (qc := qc) (p0 := nI p) (i := i) (by omega)
    by_cases c2 : qp i = nI p
    · obtain ⟨z, z1, z2, z3⟩ := u_spr lm lr kc fo qp qm qv hs i p _ (a4 i hin c2) a6 s R hs1 hR
      rw [step, if_pos c2, z1, kv_q1_s]
      by_cases c3 : qc i ≤ 0
      · have e0 : (qc i).toInt.toNat = 0 := by rw [Int32.le_iff_toInt_le, kv_i0] at c3; omega
        rw [e0] at z2
        rw [kv_reach_S, Bool.eq_false_iff.mpr (fun q => (hu.mp q).2 c3)]
        exact ih f (i + 1) z R (by omega) (by omega) (fun S hS => (z2 S hS).trans (kv_step_0 (fun j hj => (kv_tk_le (a10 j hj).2).2) S (by omega))) hR
      · rw [kv_reach_S, hu.mpr ⟨c2, c3⟩]
        exact ih f (i + 1) z _ (by omega) (by omega) z2 z3
    · rw [step, if_neg c2, kv_reach_S, Bool.eq_false_iff.mpr (fun q => c2 (hu.mp q).1)]
      exact ih f (i + 1) s R (by omega) (by omega) hs1 hR
theorem kv_wN0 (m : Nat) (c : fo m p ≤ 0) : kv_wN kc fo kp p m = 0 := by
  unfold kv_wN kv_wt
  rw [if_pos c]
  rfl
theorem u_70 (h : u_P lm lp lr kc fo kp qp qm qv qc hs n p) (k56) (x5 x6 : Int32) (lq : Nat → Int32) (o : Nat) (ho : o < 32) : ∀ (k f m : Nat), m + k = 5 → k < f → pf_L_gap_70 lm lp lr (nI p) k56 f x5 x6 (nI o) (nI (kv_S (kv_wN kc fo kp p) o m)) (nI (kv_S (fun j => if fo j p ≤ 0 then 0 else 2 ^ j) o m)) (nI m) lq = if ((x5 >>> ((31 - nI o) &&& 31)) &&& 1) = 1 then pf_L_gap_181 lm lp lr (nI p) k56 x5 x6 (nI o) (nI (kv_S (kv_wN kc fo kp p) o 5)) (nI (kv_S (fun j => if fo j p ≤ 0 then 0 else 2 ^ j) o 5)) 1 lq else pf_L_gap_181 lm lp lr (nI p) k56 x5 x6 (nI o) (nI (kv_S (kv_wN kc fo kp p) o 5)) (nI (kv_S (fun j => if fo j p ≤ 0 then 0 else 2 ^ j) o 5)) 0 lq := by
  obtain ⟨a1, a2, a3, a4, a5, a6, a7, a8, a9, a10, a11, a12, a13⟩ := h
  intro k
  induction k with
  | zero =>
    intro f m hi hf
    obtain ⟨f, rfl⟩ : ∃ z, f = z + 1 := ⟨f - 1, by omega⟩
    have e : m = 5 := by omega
    rw [pf_L_gap_70.eq_2, e]
    unfold pf_L_gap_70b
    rw [if_pos ((kv_ge5 (i := 5) (by omega)).mpr (by omega))]
  | succ k ih =>
    intro f m hi hf
    obtain ⟨f, rfl⟩ : ∃ z, f = z + 1 := ⟨f - 1, by omega⟩
    have hm : m < 5 := by omega
    have hk := ih f (m + 1) (by omega) (by omega)
    rw [← hk]
    have hS1 : kv_S (kv_wN kc fo kp p) o (m + 1) = kv_S (kv_wN kc fo kp p) o m + (if o.testBit m = true then kv_wN kc fo kp p m else 0) := rfl
    have hB1 : kv_S (fun j => if fo j p ≤ 0 then 0 else 2 ^ j) o (m + 1) = kv_S (fun j => if fo j p ≤ 0 then 0 else 2 ^ j) o m + (if o.testBit m = true then (if fo m p ≤ 0 then 0 else 2 ^ m) else 0) := rfl
    have h10 : ¬ ((1 : Int32) = 0) := by decide
    have hz : ∀ x, nI x + 0 = nI x := fun x => by rw [← nI_0, nI_add, Nat.add_zero]
    rw [pf_L_gap_70.eq_2, hS1, hB1]
    unfold pf_L_gap_70b pf_L_gap_94 pf_L_gap_132 pf_L_gap_153
    rw [if_neg (fun d => by have := (kv_ge5 (by omega)).mp d; omega), kv_4i, kv_a2, nI_add, kv_gN (show 4 * m + 2 + p < 20 by omega) (by omega), kv_T_s, nI_clamp (show 4 * m + 2 + p < 2 ^ 31 by omega), a7 m hm, kv_shr (by omega) (by omega), kv_andbit o ho m hm]
    by_cases c : fo m p ≤ 0
    · rw [if_pos c, if_pos rfl, kv_T_s, if_pos rfl, kv_T_s]
      simp only [hz, kv_wN0 kc fo kp p m c, if_pos c, ite_self, Nat.add_zero, nI_1]
    · obtain ⟨w1, w2⟩ := kv_wNs (kc := kc) (fo := fo) (kp := kp) (p := p) (i := m) (a10 m (by omega)).1 (a10 m (by omega)).2 a12 a13
      have hw : kc m * kp p = nI (kv_wN kc fo kp p m) := by
        rw [← w1]
        unfold kv_wt
        rw [if_neg c]
      rw [if_neg c, if_neg h10, if_neg c]
      cases b : o.testBit m with
      | true =>
        rw [if_pos (if_pos rfl), kv_gN (show 4 * m < 20 by omega) (by omega), kv_T_s, kv_2i, nI_1, kv_gN (show 2 * p + 1 < 4 by omega) (by omega), kv_T_s, kv_T_s, if_neg h10, kv_T_s, nI_clamp (show 4 * m < 2 ^ 31 by omega), nI_clamp (show 2 * p + 1 < 2 ^ 31 by omega), a9 m hm, a11, hw, nI_add, if_pos rfl, nI_add, nI_1]
        rfl
      | false =>
        rw [if_neg (by rw [if_neg (by decide)]; decide), kv_T_s, if_neg h10, kv_T_s]
        simp only [hz, Bool.false_eq_true, if_false, nI_add, Nat.add_zero, nI_1]
theorem u_181 (k56 : Int32 → Int32 → Int32 → (Nat → Int32) → Option (Int32 × (Nat → Int32))) (x5 x6 x7 x8 x9 : Int32) (b : Bool) (lq : Nat → Int32) : pf_L_gap_181 lm lp lr (nI p) k56 x5 x6 x7 x8 x9 (if b = true then 1 else 0) lq = if b = true ∧ (x8 < x6 ∨ (x8 = x6 ∧ ¬ lq 2 ≤ x9)) then k56 x5 x8 (x7 + (-1)) (upd lq 2 x9) else k56 x5 x6 (x7 + (-1)) (upd lq 2 (lq 2)) := by
  have h10 : ¬ ((1 : Int32) = 0) := by decide
  have g3 : ∀ z : Option (Int32 × (Nat → Int32)), kv_G (2 : Int32) 3 z = z := fun z => kv_gT (n := 3) (x := 2) (by decide) (by decide)
  have e2 : ((2 : Int32).toNatClampNeg) = 2 := rfl
  unfold pf_L_gap_181 pf_L_gap_216 pf_L_gap_230 pf_L_gap_249
  simp only [kv_T, g3, e2, if_neg h10]
  cases b with
  | false =>
    rw [if_neg (show ¬ (false = true) by decide), if_pos rfl, if_pos trivial, if_pos trivial, if_neg (fun q => by cases q.1)]
  | true =>
    rw [if_pos rfl, if_neg h10]
    by_cases c1 : x8 < x6
    · rw [if_pos c1, if_pos ⟨rfl, Or.inl c1⟩]
    · rw [if_neg c1]
      by_cases c2 : x8 = x6
      · rw [if_pos c2]
        by_cases c3 : lq 2 ≤ x9
        · rw [if_pos c3, if_pos trivial, if_pos trivial, if_neg (fun q => q.2.elim c1 (fun q => q.2 c3))]
        · rw [if_neg c3, if_pos ⟨rfl, Or.inr ⟨c2, c3⟩⟩]
      · rw [if_neg c2, if_pos trivial, if_pos trivial, if_neg (fun q => q.2.elim c1 (fun q => c2 q.1))]
theorem u_x7 {x7 : Int32} {i : Nat} (hi : i < 32) (h : x7.toInt = 31 - (i : Int)) : x7 = nI (31 - i) ∧ 31 - x7 = nI i ∧ (x7 + (-1)).toInt = 31 - ((i + 1 : Nat) : Int) := by
  have e : x7 = nI (31 - i) := Int32.toInt_inj.mp (by rw [h, nI_toInt (by omega)]; omega)
  refine ⟨e, ?_, ?_⟩
  · rw [e, show (31 : Int32) = nI 31 from rfl, pk_sub (by omega), show 31 - (31 - i) = i by omega]
  · rw [kv_addI (by rw [h, kv_in1]; omega) (by rw [h, kv_in1]; omega), h, kv_in1]
    omega
/-- one turn of the choice -/
theorem u_56s (h : u_P lm lp lr kc fo kp qp qm qv qc hs n p) (s : Int32) (f i B : Nat) (x7 : Int32) (lq : Nat → Int32) (hi : i < 32) (hx : x7.toInt = 31 - (i : Int)) : pf_L_gap_56 lm lp lr (nI p) (f + 1) s (nI B) x7 lq = if kv_bt s i = true ∧ (nI (kv_S (kv_wN kc fo kp p) (kv_d (kv_hs fo p) i) 8) < nI B ∨ (nI (kv_S (kv_wN kc fo kp p) (kv_d (kv_hs fo p) i) 8) = nI B ∧ ¬ lq 2 ≤ nI (kv_d (kv_hs fo p) i))) then pf_L_gap_56 lm lp lr (nI p) f s (nI (kv_S (kv_wN kc fo kp p) (kv_d (kv_hs fo p) i) 8)) (x7 + (-1)) (upd lq 2 (nI (kv_d (kv_hs fo p) i))) else pf_L_gap_56 lm lp lr (nI p) f s (nI B) (x7 + (-1)) (upd lq 2 (lq 2)) := by
  obtain ⟨e1, e2, e3⟩ := u_x7 hi hx
  have h70 := u_70 lm lp lr kc fo kp qp qm qv qc hs n p h (pf_L_gap_56 lm lp lr (nI p) f) s (nI B) lq (31 - i) (by omega) 5 kv_F 0 (by omega) (kv_Fgt (by omega))
  have z1 : nI (kv_S (kv_wN kc fo kp p) (31 - i) 0) = 0 := rfl
  have z2 : nI (kv_S (fun j => if fo j p ≤ 0 then 0 else 2 ^ j) (31 - i) 0) = 0 := rfl
  obtain ⟨d1, d2⟩ := kv_sum_d (fo := fo) (p := p) (w := kv_wN kc fo kp p) h.2.2.2.2.2.2.2.1 (fun j c => kv_wN0 kc fo kp p j c) hi
  rw [z1, z2, nI_0, d1, d2, ← e1, e2] at h70
  have hb : (((s >>> (nI i &&& 31)) &&& 1) = 1) ↔ kv_bt s i = true := kv_shr1 s hi
  rw [pf_L_gap_56.eq_2]
  unfold pf_L_gap_56b
  rw [if_neg (fun q => by rw [Int32.lt_iff_toInt_lt, hx, kv_i0] at q; omega), h70]
  have h181 := u_181 lm lp lr p (pf_L_gap_56 lm lp lr (nI p) f) s (nI B) x7 (nI (kv_S (kv_wN kc fo kp p) (kv_d (kv_hs fo p) i) 8)) (nI (kv_d (kv_hs fo p) i)) (kv_bt s i) lq
  rw [← h181]
  by_cases c : kv_bt s i = true
  · rw [if_pos (hb.mpr c), if_pos c]
  · rw [if_neg (fun q => c (hb.mp q)), if_neg c]
theorem u_56 (h : u_P lm lp lr kc fo kp qp qm qv qc hs n p) (s : Int32) : ∀ (k f i L : Nat) (x7 : Int32) (lq : Nat → Int32), i + k = 32 → k < f → lq 2 = nI L → L < 256 → x7.toInt = 31 - (i : Int) → ∃ lq', pf_L_gap_56 lm lp lr (nI p) f s (nI (kv_S (kv_wN kc fo kp p) L 8)) x7 lq = some (nI (kv_S (kv_wN kc fo kp p) (kv_pick (fun U => kv_S (kv_wN kc fo kp p) U 8) (kv_d (kv_hs fo p)) (kv_bt s) i k L) 8), lq') ∧ lq' 2 = nI (kv_pick (fun U => kv_S (kv_wN kc fo kp p) U 8) (kv_d (kv_hs fo p)) (kv_bt s) i k L) ∧ ∀ j, j ≠ 2 → lq' j = lq j := by
  have hb : ∀ U, kv_S (kv_wN kc fo kp p) U 8 ≤ 512000 := fun U => by
    have := kv_S_le (U := U) (fun j hj => (kv_wNs (fo := fo) (kp := kp) (p := p) (h.2.2.2.2.2.2.2.2.2.1 j hj).1 (h.2.2.2.2.2.2.2.2.2.1 j hj).2 h.2.2.2.2.2.2.2.2.2.2.2.1 h.2.2.2.2.2.2.2.2.2.2.2.2).2) 8 (Nat.le_refl 8)
    omega
  have hh := kv_hs32 h.2.2.2.2.2.2.2.1
  intro k
  induction k with
  | zero =>
    intro f i L x7 lq hi hf h2 hL hx
    obtain ⟨f, rfl⟩ : ∃ z, f = z + 1 := ⟨f - 1, by omega⟩
    refine ⟨lq, ?_, h2, fun _ _ => rfl⟩
    rw [pf_L_gap_56.eq_2]
    unfold pf_L_gap_56b
    rw [if_pos (by rw [Int32.lt_iff_toInt_lt, hx, kv_i0]; omega)]
    rfl
  | succ k ih =>
    intro f i L x7 lq hi hf h2 hL hx
    obtain ⟨f, rfl⟩ : ∃ z, f = z + 1 := ⟨f - 1, by omega⟩
    have hi2 : i < 32 := by omega
    obtain ⟨e1, e2, e3⟩ := u_x7 hi2 hx
    have b1 := hb (kv_d (kv_hs fo p) i)
    have b2 := hb L
    have hd : kv_d (kv_hs fo p) i < 32 := kv_d32 hh
    have hiff : (kv_bt s i = true ∧ (nI (kv_S (kv_wN kc fo kp p) (kv_d (kv_hs fo p) i) 8) < nI (kv_S (kv_wN kc fo kp p) L 8) ∨ (nI (kv_S (kv_wN kc fo kp p) (kv_d (kv_hs fo p) i) 8) = nI (kv_S (kv_wN kc fo kp p) L 8) ∧ ¬ lq 2 ≤ nI (kv_d (kv_hs fo p) i)))) ↔ (kv_bt s i && kv_less (fun U => kv_S (kv_wN kc fo kp p) U 8) (kv_d (kv_hs fo p) i) L) = true := by
      unfold kv_less
      simp only [Bool.and_eq_true, Bool.or_eq_true, decide_eq_true_eq]
      rw [h2, nI_ltI (by omega) (by omega), nI_eq (by omega) (by omega), nI_leI (by omega) (by omega)]
      constructor
      · rintro ⟨q1, q2 | ⟨q2, q3⟩⟩
        · exact ⟨q1, Or.inl q2⟩
        · exact ⟨q1, Or.inr ⟨q2, by omega⟩⟩
      · rintro ⟨q1, q2 | ⟨q2, q3⟩⟩
        · exact ⟨q1, Or.inl q2⟩
        · exact ⟨q1, Or.inr ⟨q2, by omega⟩⟩
    rw [u_56s lm lp lr kc fo kp qp qm qv qc hs n p h s f i _ x7 lq hi2 hx, kv_pick_S]
    by_cases c : (kv_bt s i && kv_less (fun U => kv_S (kv_wN kc fo kp p) U 8) (kv_d (kv_hs fo p) i) L) = true
    · rw [if_pos (hiff.mpr c), if_pos c]
      obtain ⟨l', g1, g2, g3⟩ := ih f (i + 1) (kv_d (kv_hs fo p) i) (x7 + (-1)) (upd lq 2 (nI (kv_d (kv_hs fo p) i))) (by omega) (by omega) (if_pos rfl) (by omega) e3
      exact ⟨l', g1, g2, fun j hj => (g3 j hj).trans (if_neg hj)⟩
    · rw [if_neg (fun q => c (hiff.mp q)), if_neg c]
      obtain ⟨l', g1, g2, g3⟩ := ih f (i + 1) L (x7 + (-1)) (upd lq 2 (lq 2)) (by omega) (by omega) ((if_pos rfl).trans h2) hL e3
      exact ⟨l', g1, g2, fun j hj => (g3 j hj).trans (if_neg hj)⟩
/-- the law's gap is the least weight, its row's third place the set -/
theorem u_gap (h : u_P lm lp lr kc fo kp qp qm qv qc hs n p) (lq : Nat → Int32) (h1 : lq 1 = nI n) (ok : Nat → Bool) (L : Nat) (hok : ∀ S, S < 256 → (ok S = true ↔ kv_reach (kv_use qp qc (nI p) (-1)) (kv_tk kc qm) (fun r j => kv_cv fo qp qm qv hs r (nI j)) (fun r => (qc r).toInt.toNat) 0 n (fun S => S = 0) S)) (hL : L = kv_pick (fun U => kv_S (kv_wN kc fo kp p) U 8) (kv_d (kv_hs fo p)) ok 0 256 (kv_hs fo p)) : ∃ lq', pf_L_gap lm lp lr (nI p) lq = some (nI (kv_S (kv_wN kc fo kp p) L 8), lq') ∧ lq' 2 = nI L ∧ ∀ j, j ≠ 2 → lq' j = lq j := by
  have hh := kv_hs32 h.2.2.2.2.2.2.2.1
  obtain ⟨s', s1, s2, s3⟩ := u_g6 lm lp lr kc fo kp qp qm qv qc hs n p h lq h1 n kv_F 0 1 (fun S => S = 0) (by omega) (kv_Fgt (by have := h.1; omega)) (fun S hS => by rw [kv_bt_1 S hS, decide_eq_true_iff]) (fun S hS q => by rw [q]; decide)
  have hd0 : kv_d (kv_hs fo p) 0 = kv_hs fo p := kv_d_0 (by omega)
  have hb0 : kv_bt s' 0 = true := (s2 0 (by decide)).mpr (kv_reach_0 _ _ _ _ _ _ _ rfl)
  have hb : kv_S (kv_wN kc fo kp p) (kv_hs fo p) 8 ≤ 512000 := by
    have := kv_S_le (U := kv_hs fo p) (fun j hj => (kv_wNs (fo := fo) (kp := kp) (p := p) (h.2.2.2.2.2.2.2.2.2.1 j hj).1 (h.2.2.2.2.2.2.2.2.2.1 j hj).2 h.2.2.2.2.2.2.2.2.2.2.2.1 h.2.2.2.2.2.2.2.2.2.2.2.2).2) 8 (Nat.le_refl 8)
    omega
  have w1 := u_56s lm lp lr kc fo kp qp qm qv qc hs n p h s' 69999 0 1073741824 31 lq (by decide) (by decide)
  rw [hd0, if_pos ⟨hb0, Or.inl ((nI_ltI (by omega) (by decide)).mpr (by omega))⟩] at w1
  obtain ⟨l', g1, g2, g3⟩ := u_56 lm lp lr kc fo kp qp qm qv qc hs n p h s' 31 69999 1 (kv_hs fo p) (31 + (-1)) (upd lq 2 (nI (kv_hs fo p))) (by omega) (by omega) (if_pos rfl) (by omega) (by decide)
  have hpick : kv_pick (fun U => kv_S (kv_wN kc fo kp p) U 8) (kv_d (kv_hs fo p)) (kv_bt s') 1 31 (kv_hs fo p) = L := by
    rw [hL, show (256 : Nat) = 255 + 1 from rfl, kv_pick_1 255 hd0, show (255 : Nat) = 31 + 224 from rfl, kv_pick_split, kv_pick_no 224 (1 + 31) _ (fun j q1 q2 => by
      cases e : ok j with
      | false => rfl
      | true => have := s3 j (by omega) ((hok j (by omega)).mp e); omega)]
    refine kv_pick_c 31 1 _ (fun j q1 q2 => ?_)
    rw [Bool.eq_iff_iff, s2 j (by omega), hok j (by omega)]
  rw [hpick] at g1 g2
  refine ⟨l', ?_, g2, fun j hj => (g3 j hj).trans (if_neg hj)⟩
  rw [nI_0] at s1
  exact s1.trans (w1.trans g1)
end GAP
end KVL42
