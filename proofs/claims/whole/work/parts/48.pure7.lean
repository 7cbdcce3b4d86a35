section KVP7
def kv_wN (kc : Nat → Int32) (fo : Nat → Nat → Int32) (kp : Nat → Int32) (p i : Nat) : Nat := (kv_wt kc fo kp i p).toInt.toNat
theorem kv_wNs {kc : Nat → Int32} {fo : Nat → Nat → Int32} {kp : Nat → Int32} {p i : Nat} (h1 : 1 ≤ kc i) (h2 : kc i ≤ 64) (h3 : 0 ≤ kp p) (h4 : kp p ≤ 1000) : kv_wt kc fo kp i p = nI (kv_wN kc fo kp p i) ∧ kv_wN kc fo kp p i ≤ 64000 := by
  have key : ∃ w : Nat, w ≤ 64000 ∧ kv_wt kc fo kp i p = nI w := by
    unfold kv_wt
    split
    · exact ⟨0, by omega, rfl⟩
    · obtain ⟨a, a1, a2⟩ := nI_of2 (n := 64) kv_i64 (fun c => by rw [Int32.lt_iff_toInt_lt, kv_i0] at c; rw [Int32.le_iff_toInt_le, kv_i1] at h1; omega) h2
      obtain ⟨b, b1, b2⟩ := nI_of2 (n := 1000) kv_i1000 (Int32.not_lt.mpr h3) h4
      refine ⟨a * b, ?_, by rw [a2, b2, pk_mul]⟩
      exact Nat.mul_le_mul a1 b1
  obtain ⟨w, w1, w2⟩ := key
  have e : kv_wN kc fo kp p i = w := by
    unfold kv_wN
    rw [w2, nI_toInt (by omega)]
    rfl
  rw [e]
  exact ⟨w2, w1⟩
theorem kv_S_le {w : Nat → Nat} {U : Nat} (h : ∀ j, j < 8 → w j ≤ 64000) : ∀ m, m ≤ 8 → kv_S w U m ≤ 64000 * m := by
  intro m
  induction m with
  | zero => intro _; exact Nat.le_refl 0
  | succ m ih =>
    intro hm
    have h1 := ih (by omega)
    have h2 := h m (by omega)
    unfold kv_S
    split <;> omega
theorem q_wt2 (kc : Nat → Int32) (fo : Nat → Nat → Int32) (kp : Nat → Int32) (m : Nat) (p0 : Int32) (hm : m < 8) (h1 : kv_iv p0 0 3 = true) : pf_X2_weightOn kc fo kp (nI m) p0 = some (kv_wt kc fo kp m p0.toNatClampNeg) := by
  have h := (q_wt kc kc fo (fun _ => fo (nI m).toNatClampNeg p0.toNatClampNeg) kp kp (nI m) p0 (kv_ivN hm) h1 rfl rfl rfl).1
  rw [nI_clamp (by omega)] at h
  exact h
theorem kv_sl_b (kc : Nat → Int32) (fo : Nat → Nat → Int32) (kp : Nat → Int32) (p0 : Int32) (m w : Nat) (k2 : Int32 → (Nat → Int32) → Int32 → (Nat → Int32) → Option ((Nat → Int32) × Int32 × (Nat → Int32))) (sw sw' : Nat → Int32) (hv H' : Int32) (tk : Nat → Int32) (hm : m < 8) (h1 : kv_iv p0 0 3 = true) (hw : kv_wt kc fo kp m p0.toNatClampNeg = nI w) (hg : pf_X0_weigh (nI m) (if fo m p0.toNatClampNeg ≤ 0 then 0 else 1) (nI w) sw hv = some (sw', H')) : pf_X2_startLayings_9b kc fo kp p0 k2 (nI m) sw hv tk = k2 (nI (m + 1)) sw' H' tk := by
  unfold pf_X2_startLayings_9b pf_X2_startLayings_36
  rw [if_neg (fun d => by have := (kv_ge8 (by omega)).mp d; omega), kv_g8 (kv_ivN hm), kv_g4 h1, q_wt2 kc fo kp m p0 hm h1, hw]
  simp only [kv_T, nI_clamp (show m < 2 ^ 31 by omega), nI_1, kv_q1]
  by_cases c : fo m p0.toNatClampNeg ≤ 0
  · rw [if_pos c] at hg ⊢
    rw [hg]
    rfl
  · rw [if_neg c] at hg ⊢
    rw [hg]
    rfl
theorem q_sl9 (kc : Nat → Int32) (fo : Nat → Nat → Int32) (kp : Nat → Int32) (p0 : Int32) (tk : Nat → Int32) (h1 : kv_iv p0 0 3 = true) (hK : ∀ i, i < 8 → 1 ≤ kc i ∧ kc i ≤ 64) (hq : 0 ≤ kp p0.toNatClampNeg ∧ kp p0.toNatClampNeg ≤ 1000) : ∀ (k f m h : Nat) (sw : Nat → Int32), m + k = 8 → k < f → h < 256 → (∀ U, U < 2 ^ m → sw U = nI (kv_S (kv_wN kc fo kp p0.toNatClampNeg) U m)) → ∃ sw', pf_X2_startLayings_9 kc fo kp p0 f (nI m) sw (nI h) tk = some (sw', nI (kv_or (fun j => !decide (fo j p0.toNatClampNeg ≤ 0)) m k h), tk) ∧ ∀ U, U < 256 → sw' U = nI (kv_S (kv_wN kc fo kp p0.toNatClampNeg) U 8) := by
  intro k
  induction k with
  | zero =>
    intro f m h sw hi hf hh hI
    obtain ⟨f, rfl⟩ : ∃ z, f = z + 1 := ⟨f - 1, by omega⟩
    refine ⟨sw, ?_, fun U hU => ?_⟩
    · rw [pf_X2_startLayings_9.eq_2]
      unfold pf_X2_startLayings_9b
      rw [if_pos ((kv_ge8 (by omega)).mpr (by omega))]
      rfl
    · have e : m = 8 := by omega
      rw [e] at hI
      exact hI U hU
  | succ k ih =>
    intro f m h sw hi hf hh hI
    obtain ⟨f, rfl⟩ : ∃ z, f = z + 1 := ⟨f - 1, by omega⟩
    have hm : m < 8 := by omega
    obtain ⟨a1, a2⟩ := hK m hm
    obtain ⟨w1, w2⟩ := kv_wNs (fo := fo) a1 a2 hq.1 hq.2
    obtain ⟨sw', g1, g2⟩ := q_weigh (if fo m p0.toNatClampNeg ≤ 0 then 0 else 1) (kv_wN kc fo kp p0.toNatClampNeg) m h (!decide (fo m p0.toNatClampNeg ≤ 0)) hm hh (by by_cases c : fo m p0.toNatClampNeg ≤ 0 <;> simp [c]) sw hI
    rw [pf_X2_startLayings_9.eq_2, kv_sl_b kc fo kp p0 m _ _ sw sw' (nI h) _ tk hm h1 w1 g1]
    refine ih f (m + 1) _ sw' (by omega) (by omega) ?_ g2
    split
    · exact kv_orb hh (kv_p2 hm)
    · exact hh
/-- the machines that have the product -/
def kv_hs (fo : Nat → Nat → Int32) (p : Nat) : Nat := kv_or (fun j => !decide (fo j p ≤ 0)) 0 8 0
theorem kv_hs_lt (fo : Nat → Nat → Int32) (p : Nat) : kv_hs fo p < 256 := kv_or_lt _ 8 0 0 rfl (by decide)
def kv_v0 (S : Nat) : Nat := if S = 0 then 0 else 1000000
theorem q_start (kc : Nat → Int32) (fo : Nat → Nat → Int32) (kp : Nat → Int32) (p0 : Int32) (sw : Nat → Int32) (hv : Int32) (tk : Nat → Int32) (h1 : kv_iv p0 0 3 = true) (hK : ∀ i, i < 8 → 1 ≤ kc i ∧ kc i ≤ 64) (hq : 0 ≤ kp p0.toNatClampNeg ∧ kp p0.toNatClampNeg ≤ 1000) (h0 : sw 0 = 0) : ∃ sw' tk', pf_X2_startLayings kc fo kp p0 sw hv tk = some (sw', nI (kv_hs fo p0.toNatClampNeg), tk') ∧ (∀ U, U < 256 → sw' U = nI (kv_S (kv_wN kc fo kp p0.toNatClampNeg) U 8)) ∧ kv_is tk' kv_v0 := by
  have hc : pf_X0_clearAll hv tk = some (0, upd (kv_fill tk 256 1000000) 0 0) := by
    unfold pf_X0_clearAll
    simp only [kv_T]
    rw [kv_gT (n := 256) (x := 0) (by decide) (by decide)]
    rfl
  obtain ⟨sw', g1, g2⟩ := q_sl9 kc fo kp p0 (upd (kv_fill tk 256 1000000) 0 0) h1 hK hq 8 kv_F 0 0 sw (by omega) (kv_Fgt (by omega)) (by decide) (fun U hU => by
    have : U = 0 := by simpa using hU
    rw [this, h0]; rfl)
  refine ⟨sw', upd (kv_fill tk 256 1000000) 0 0, ?_, g2, ?_⟩
  · unfold pf_X2_startLayings
    rw [hc]
    exact g1
  · intro S hS
    unfold upd kv_fill kv_v0
    by_cases e : S = 0
    · rw [if_pos e, if_pos e]; exact ⟨rfl, by decide⟩
    · rw [if_neg e, if_neg e, if_pos hS]; exact ⟨rfl, Nat.le_refl _⟩
/-- what a right takes on a machine -/
def kv_tk (kc qm : Nat → Int32) (r j : Nat) : Nat := if qm r = 1 then max 4 (kc j).toInt.toNat else 1
theorem kv_tk_le {kc qm : Nat → Int32} {r j : Nat} (h : kc j ≤ 64) : kv_tk kc qm r j ≤ 64 ∧ 1 ≤ kv_tk kc qm r j := by
  rw [Int32.le_iff_toInt_le, kv_i64] at h
  unfold kv_tk
  split <;> omega
theorem kv_tk_n {kc : Nat → Int32} {j : Nat} (h0 : 1 ≤ kc j) (h : kc j ≤ 64) : kc j = nI (kc j).toInt.toNat ∧ (kc j).toInt.toNat ≤ 64 := by
  obtain ⟨a, a1, a2⟩ := nI_of2 (n := 64) kv_i64 (fun c => by rw [Int32.lt_iff_toInt_lt, kv_i0] at c; rw [Int32.le_iff_toInt_le, kv_i1] at h0; omega) h
  rw [a2, nI_toInt (by omega)]
  exact ⟨rfl, a1⟩
theorem q_to (kc : Nat → Int32) (n : Nat) (qm : Nat → Int32) (r i : Nat) (hi : i < 8) (h0 : 1 ≤ kc i) (h : kc i ≤ 64) : pf_X2_takenOn kc n qm r (nI i) = some (nI (kv_tk kc qm r i)) := by
  obtain ⟨a1, a2⟩ := kv_tk_n h0 h
  unfold pf_X2_takenOn kv_tk
  by_cases c : qm r = 1
  · rw [if_pos c, if_pos c, kv_g8 (kv_ivN hi)]
    simp only [kv_T, nI_clamp (show i < 2 ^ 31 by omega)]
    by_cases d : 4 < (kc i).toInt.toNat
    · rw [if_pos (by rw [a1]; exact nI_lt (a := 4) d (by omega)), Nat.max_eq_right (by omega), ← a1]
    · rw [if_neg (by rw [a1]; exact nI_nlt (a := 4) (by omega) (by omega)), Nat.max_eq_left (by omega)]
      rfl
  · rw [if_neg c, if_neg c]
    rfl
theorem q_tu (kc : Nat → Int32) (fo : Nat → Nat → Int32) (n : Nat) (qp qm qv hs : Nat → Int32) (r : Nat) (hq : kv_iv (qp r) 0 3 = true) (hK : ∀ i, i < 8 → 1 ≤ kc i ∧ kc i ≤ 64) : ∀ (k f i : Nat) (mt mv : Nat → Int32), i + k = 8 → k < f → (∀ j, j < i → mt j = nI (kv_tk kc qm r j) ∧ mv j = nI (kv_cv fo qp qm qv hs r (nI j))) → ∃ mt' mv', pf_X2_takeUp_2 kc fo n qp qm qv r hs f (nI i) mt mv = some (mt', mv') ∧ ∀ j, j < 8 → mt' j = nI (kv_tk kc qm r j) ∧ mv' j = nI (kv_cv fo qp qm qv hs r (nI j)) := by
  intro k
  induction k with
  | zero =>
    intro f i mt mv hi hf hI
    obtain ⟨f, rfl⟩ : ∃ z, f = z + 1 := ⟨f - 1, by omega⟩
    refine ⟨mt, mv, ?_, fun j hj => hI j (by omega)⟩
    rw [pf_X2_takeUp_2.eq_2]
    unfold pf_X2_takeUp_2b
    rw [if_pos ((kv_ge8 (by omega)).mpr (by omega))]
  | succ k ih =>
    intro f i mt mv hi hf hI
    obtain ⟨f, rfl⟩ : ∃ z, f = z + 1 := ⟨f - 1, by omega⟩
    have hi8 : i < 8 := by omega
    have step : ∀ k2, pf_X2_takeUp_2b kc fo n qp qm qv r hs k2 (nI i) mt mv = k2 (nI (i + 1)) (upd mt i (nI (kv_tk kc qm r i))) (upd mv i (nI (kv_cv fo qp qm qv hs r (nI i)))) := by
      intro k2
      unfold pf_X2_takeUp_2b
      rw [if_neg (fun d => by have := (kv_ge8 (by omega)).mp d; omega), q_to kc n qm r i hi8 (hK i hi8).1 (hK i hi8).2, q_cv2 fo n qp qm qv hs r (nI i) hq]
      simp only [kv_q1, kv_T, kv_g8 (kv_ivN hi8), nI_clamp (show i < 2 ^ 31 by omega), nI_1]
    rw [pf_X2_takeUp_2.eq_2, step]
    refine ih f (i + 1) _ _ (by omega) (by omega) (fun j hj => ?_)
    unfold upd
    by_cases e : j = i
    · rw [if_pos e, if_pos e, e]; exact ⟨rfl, rfl⟩
    · rw [if_neg e, if_neg e]; exact hI j (by omega)
theorem q_take (kc : Nat → Int32) (fo : Nat → Nat → Int32) (n : Nat) (qp qm qv hs : Nat → Int32) (r : Nat) (mt mv : Nat → Int32) (hq : kv_iv (qp r) 0 3 = true) (hK : ∀ i, i < 8 → 1 ≤ kc i ∧ kc i ≤ 64) : ∃ mt' mv', pf_X2_takeUp kc fo n qp qm qv r hs mt mv = some (mt', mv') ∧ ∀ j, j < 8 → mt' j = nI (kv_tk kc qm r j) ∧ kv_tk kc qm r j ≤ 64 ∧ mv' j = nI (kv_cv fo qp qm qv hs r (nI j)) ∧ kv_cv fo qp qm qv hs r (nI j) < 256 := by
  obtain ⟨a, b, h1, h2⟩ := q_tu kc fo n qp qm qv hs r hq hK 8 kv_F 0 mt mv (by omega) (kv_Fgt (by omega)) (fun j hj => absurd hj (Nat.not_lt_zero j))
  exact ⟨a, b, h1, fun j hj => ⟨(h2 j hj).1, (kv_tk_le (hK j hj).2).1, (h2 j hj).2, kv_cv_lt _ _ _ _ _ _ _⟩⟩
end KVP7
