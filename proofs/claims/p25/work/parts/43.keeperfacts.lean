section KVL43
theorem n_M {i : Nat} (h : i < 8) : pf_X2n_requireMachine (nI i) = some () := by
  unfold pf_X2n_requireMachine
  rw [if_neg (fun q => by rw [Int32.lt_iff_toInt_lt, nI_toInt (by omega), kv_i0] at q; omega), if_pos (show nI i < (8 : Int32) from (nI_ltI (b := 8) (by omega) (by decide)).mpr h)]
theorem n_P {i : Nat} (h : i < 4) : pf_X2n_requireProduct (nI i) = some () := by
  unfold pf_X2n_requireProduct
  rw [if_neg (fun q => by rw [Int32.lt_iff_toInt_lt, nI_toInt (by omega), kv_i0] at q; omega), if_pos (show nI i < (4 : Int32) from (nI_ltI (b := 4) (by omega) (by decide)).mpr h)]
theorem n_R {x a b : Int32} (h1 : a ≤ x) (h2 : x ≤ b) : pf_X2n_requireRange x a b = some () := by
  unfold pf_X2n_requireRange
  rw [if_neg (Int32.not_lt.mpr h1), if_pos h2]
theorem n_rA {n r : Nat} (hn : n ≤ 12) (h : r < n) : pf_X2n_rightAt n (nI r) = some r := by
  unfold pf_X2n_rightAt
  rw [if_neg (fun q => by rw [Int32.lt_iff_toInt_lt, nI_toInt (by omega), kv_i0] at q; omega), if_pos ((nI_ltI (by omega) (by omega)).mpr h), kv_lN hn h, kv_T_s, nI_clamp (by omega)]
theorem kv_q0_s {β : Type} (k : Option β) : kv_q0 (some ()) k = k := rfl
theorem n_hostOf (kh : Nat → Int32) {i : Nat} (h : i < 8) : pf_X2n_hostOf kh (nI i) = some (kh i) := by
  unfold pf_X2n_hostOf
  rw [n_M h, kv_q0_s, kv_gN h (by omega), kv_T_s, nI_clamp (by omega)]
theorem n_latest (kl : Nat → Int32) {i : Nat} (h : i < 4) : pf_X2n_latest kl (nI i) = some (kl i) := by
  unfold pf_X2n_latest
  rw [n_P h, kv_q0_s, kv_gN h (by omega), kv_T_s, nI_clamp (by omega)]
theorem n_weight (kc : Nat → Int32) (fo : Nat → Nat → Int32) (kp : Nat → Int32) {i j : Nat} (h : i < 8) (h2 : j < 4) : pf_X2n_weight kc fo kp (nI i) (nI j) = some (kv_wt kc fo kp i j) := by
  have h4 : kv_iv (nI j) 0 3 = true := by rw [kv_ivT, nI_toInt (by omega), kv_i0, kv_i3]; omega
  have hw := q_wt2 kc fo kp i (nI j) h h4
  rw [nI_clamp (by omega)] at hw
  unfold pf_X2n_weight
  rw [n_M h, kv_q0_s, n_P h2, kv_q0_s, hw, kv_q1_s]
theorem n_countOf (qc : Nat → Int32) {n r : Nat} (hn : n ≤ 12) (h : r < n) : pf_X2n_countOf n qc (nI r) = some (qc r) := by
  unfold pf_X2n_countOf
  rw [n_rA hn h, kv_q1_s]
theorem n_versionOf (qv : Nat → Int32) {n r : Nat} (hn : n ≤ 12) (h : r < n) : pf_X2n_versionOf n qv (nI r) = some (qv r) := by
  unfold pf_X2n_versionOf
  rw [n_rA hn h, kv_q1_s]
theorem n_covers (kh : Nat → Int32) (fo : Nat → Nat → Int32) (qp qm qv : Nat → Int32) {n r j : Nat} (hn : n ≤ 12) (h : r < n) (hj : j < 8) (hq : kv_iv (qp r) 0 3 = true) : pf_X2n_covers kh fo n qp qm qv (nI r) (nI j) = some (nI (kv_cv fo qp qm qv kh r (nI j))) := by
  unfold pf_X2n_covers
  rw [n_rA hn h, kv_q1_s, n_M hj, kv_q0_s, q_cv2 fo n qp qm qv kh r (nI j) hq, kv_q1_s]
theorem n_setCores (kc : Nat → Int32) {i : Nat} {x : Int32} (h : i < 8) (h1 : 1 ≤ x) (h2 : x ≤ 64) : pf_X2n_setCores (nI i) x kc = some (kc i, upd kc i x) := by
  unfold pf_X2n_setCores
  rw [n_M h, kv_q0_s, n_R h1 h2, kv_q0_s, kv_gN h (by omega), kv_T_s, kv_gN h (by omega), kv_T_s, nI_clamp (by omega)]
theorem n_setPrice (kp : Nat → Int32) {i : Nat} {x : Int32} (h : i < 4) (h1 : 0 ≤ x) (h2 : x ≤ 1000) : pf_X2n_setPrice (nI i) x kp = some (kp i, upd kp i x) := by
  unfold pf_X2n_setPrice
  rw [n_P h, kv_q0_s, n_R h1 h2, kv_q0_s, kv_gN h (by omega), kv_T_s, kv_gN h (by omega), kv_T_s, nI_clamp (by omega)]
theorem n_find (kl : Nat → Int32) (fo : Nat → Nat → Int32) {i j : Nat} {x : Int32} (h : i < 8) (hj : j < 4) (h1 : 0 ≤ x) (h2 : x ≤ kl j) : pf_X2n_find kl (nI i) (nI j) x fo = some (fo i j, kv_upR fo i (upd (fo i) j x)) := by
  unfold pf_X2n_find
  rw [n_M h, kv_q0_s, n_P hj, kv_q0_s, kv_gN hj (by omega), kv_T_s, nI_clamp (show j < 2 ^ 31 by omega), n_R h1 h2, kv_q0_s, kv_gN h (by omega), kv_gN hj (by omega), kv_T_s, kv_gN h (by omega), kv_gN hj (by omega), kv_T_s, nI_clamp (show i < 2 ^ 31 by omega)]
theorem n_pass (dy : Int32) {x : Int32} (h1 : 1 ≤ x) (h2 : x ≤ 400) : pf_X2n_pass x dy = some (dy + x, dy + x) := by
  unfold pf_X2n_pass
  rw [n_R h1 h2, kv_q0_s, kv_T_s]
/-- which sets can be covered, and the choice that keeper and law both make -/
noncomputable def kv_okk (kc : Nat → Int32) (fo : Nat → Nat → Int32) (qp qm qv qc hs : Nat → Int32) (n p S : Nat) : Bool := @decide (kv_reach (kv_use qp qc (nI p) (-1)) (kv_tk kc qm) (fun r j => kv_cv fo qp qm qv hs r (nI j)) (fun r => (qc r).toInt.toNat) 0 n (fun S => S = 0) S) (Classical.propDecidable _)
theorem kv_okk_i (kc : Nat → Int32) (fo : Nat → Nat → Int32) (qp qm qv qc hs : Nat → Int32) (n p S : Nat) : kv_okk kc fo qp qm qv qc hs n p S = true ↔ kv_reach (kv_use qp qc (nI p) (-1)) (kv_tk kc qm) (fun r j => kv_cv fo qp qm qv hs r (nI j)) (fun r => (qc r).toInt.toNat) 0 n (fun S => S = 0) S := @decide_eq_true_iff _ (Classical.propDecidable _)
noncomputable def kv_Lk (kc : Nat → Int32) (fo : Nat → Nat → Int32) (kp qp qm qv qc hs : Nat → Int32) (n p : Nat) : Nat := kv_pick (fun U => kv_S (kv_wN kc fo kp p) U 8) (kv_d (kv_hs fo p)) (kv_okk kc fo qp qm qv qc hs n p) 0 256 (kv_hs fo p)
noncomputable def kv_Wk (kc : Nat → Int32) (fo : Nat → Nat → Int32) (kp qp qm qv qc hs : Nat → Int32) (n p : Nat) : Nat := kv_S (kv_wN kc fo kp p) (kv_Lk kc fo kp qp qm qv qc hs n p) 8
theorem kv_Lk_u (kc : Nat → Int32) (fo : Nat → Nat → Int32) (kp qp qm qv qc hs : Nat → Int32) (n p : Nat) {ok : Nat → Bool} (hok : ∀ S, S < 256 → (ok S = true ↔ kv_reach (kv_use qp qc (nI p) (-1)) (kv_tk kc qm) (fun r j => kv_cv fo qp qm qv hs r (nI j)) (fun r => (qc r).toInt.toNat) 0 n (fun S => S = 0) S)) : kv_pick (fun U => kv_S (kv_wN kc fo kp p) U 8) (kv_d (kv_hs fo p)) ok 0 256 (kv_hs fo p) = kv_Lk kc fo kp qp qm qv qc hs n p :=
  kv_pick_c 256 0 _ (fun j _ hj => by rw [Bool.eq_iff_iff, hok j (by omega), kv_okk_i])
theorem kv_Lk_lt (kc : Nat → Int32) (fo : Nat → Nat → Int32) (kp qp qm qv qc hs : Nat → Int32) (n p : Nat) : kv_Lk kc fo kp qp qm qv qc hs n p < 256 := kv_pick_lt (fun i => kv_d_lt (kv_hs_lt fo p)) 256 0 _ (kv_hs_lt fo p)
theorem kv_ivP {p : Nat} (h : p < 4) : kv_iv (nI p) 0 3 = true := by rw [kv_ivT, nI_toInt (by omega), kv_i0, kv_i3]; omega
theorem u_kleast {kc : Nat → Int32} {fo : Nat → Nat → Int32} {kp qp qm qv qc : Nat → Int32} (hs : Nat → Int32) {p n : Nat} (hn : n ≤ 12) (hp : p < 4) (hqp : ∀ i, i < n → kv_iv (qp i) 0 3 = true) (hqc : ∀ i, i < n → 0 ≤ qc i ∧ qc i ≤ 500) (hK : ∀ i, i < 8 → 1 ≤ kc i ∧ kc i ≤ 64) (hq : 0 ≤ kp p ∧ kp p ≤ 1000) (mt mv sw : Nat → Int32) (hv : Int32) (tk : Nat → Int32) (h2 : sw 0 = 0) : ∃ (mt' mv' sw' : Nat → Int32) (hv' : Int32) (tk' : Nat → Int32), pf_X2_leastUncovered kc fo kp n qp qm qv qc (nI p) hs mt mv sw hv tk = some (nI (kv_Lk kc fo kp qp qm qv qc hs n p), mt', mv', sw', hv', tk') ∧ sw' 0 = 0 ∧ pf_X0_weightOfSet sw' (nI (kv_Lk kc fo kp qp qm qv qc hs n p)) = some (nI (kv_Wk kc fo kp qp qm qv qc hs n p)) := by
  have hc : (nI p).toNatClampNeg = p := nI_clamp (by omega)
  obtain ⟨L, ok, mt', mv', sw', tk', g1, g2, g3, g4, g5, g6⟩ := q_class (kc := kc) (fo := fo) (kp := kp) (qp := qp) (qm := qm) (qv := qv) (qc := qc) (hs := hs) (nI p) n hn hqp hqc (kv_ivP hp) hK (by rw [hc]; exact hq) mt mv sw hv tk h2
  rw [hc] at g1 g4 g6
  have e := kv_Lk_u kc fo kp qp qm qv qc hs n p g5
  rw [← g6] at e
  rw [e] at g1 g4
  exact ⟨mt', mv', sw', _, tk', g1, g2, g4⟩
theorem n_gap {kc : Nat → Int32} {kh : Nat → Int32} {fo : Nat → Nat → Int32} {kp qp qm qv qc : Nat → Int32} {p n : Nat} (hn : n ≤ 12) (hp : p < 4) (hqp : ∀ i, i < n → kv_iv (qp i) 0 3 = true) (hqc : ∀ i, i < n → 0 ≤ qc i ∧ qc i ≤ 500) (hK : ∀ i, i < 8 → 1 ≤ kc i ∧ kc i ≤ 64) (hq : 0 ≤ kp p ∧ kp p ≤ 1000) (mt mv sw : Nat → Int32) (hv : Int32) (tk : Nat → Int32) (h2 : sw 0 = 0) : ∃ (mt' mv' sw' : Nat → Int32) (hv' : Int32) (tk' : Nat → Int32), pf_X2n_gap kc kh fo kp n qp qm qv qc (nI p) mt mv sw hv tk = some (nI (kv_Wk kc fo kp qp qm qv qc kh n p), mt', mv', sw', hv', tk') ∧ sw' 0 = 0 := by
  obtain ⟨mt', mv', sw', hv', tk', g1, g2, g3⟩ := u_kleast (fo := fo) (qm := qm) (qv := qv) kh hn hp hqp hqc hK hq mt mv sw hv tk h2
  refine ⟨mt', mv', sw', hv', tk', ?_, g2⟩
  unfold pf_X2n_gap
  rw [n_P hp, kv_q0_s, g1, kv_q6_s, g3, kv_q1_s]
theorem n_unc {kc : Nat → Int32} {kh : Nat → Int32} {fo : Nat → Nat → Int32} {kp qp qm qv qc : Nat → Int32} {p n : Nat} (hn : n ≤ 12) (hp : p < 4) (hqp : ∀ i, i < n → kv_iv (qp i) 0 3 = true) (hqc : ∀ i, i < n → 0 ≤ qc i ∧ qc i ≤ 500) (hK : ∀ i, i < 8 → 1 ≤ kc i ∧ kc i ≤ 64) (hq : 0 ≤ kp p ∧ kp p ≤ 1000) (mt mv sw : Nat → Int32) (hv : Int32) (tk : Nat → Int32) (h2 : sw 0 = 0) : ∃ (mt' mv' sw' : Nat → Int32) (hv' : Int32) (tk' : Nat → Int32), pf_X2n_uncovered kc kh fo kp n qp qm qv qc (nI p) mt mv sw hv tk = some (nI (kv_Lk kc fo kp qp qm qv qc kh n p), mt', mv', sw', hv', tk') ∧ sw' 0 = 0 := by
  obtain ⟨mt', mv', sw', hv', tk', g1, g2, g3⟩ := u_kleast (fo := fo) (qm := qm) (qv := qv) kh hn hp hqp hqc hK hq mt mv sw hv tk h2
  refine ⟨mt', mv', sw', hv', tk', ?_, g2⟩
  unfold pf_X2n_uncovered
  rw [n_P hp, kv_q0_s, g1, kv_q6_s]
theorem u_gapIf {kc : Nat → Int32} {kh ks : Nat → Int32} {fo : Nat → Nat → Int32} {kp qp qm qv qc : Nat → Int32} {p n : Nat} (p1 p2 p3 : Int32) (hn : n ≤ 12) (hp : p < 4) (hqp : ∀ i, i < n → kv_iv (qp i) 0 3 = true) (hqc : ∀ i, i < n → 0 ≤ qc i ∧ qc i ≤ 500) (hK : ∀ i, i < 8 → 1 ≤ kc i ∧ kc i ≤ 64) (hq : 0 ≤ kp p ∧ kp p ≤ 1000) (mt mv sw : Nat → Int32) (hv : Int32) (tk : Nat → Int32) (h2 : sw 0 = 0) (h1 : ¬ kv_mv kh p1 p2 = 1) : ∃ (ks' mt' mv' sw' : Nat → Int32) (hv' : Int32) (tk' : Nat → Int32), pf_L_calls_6 kc kh fo kp n qp qm qv qc (nI p) p1 p2 p3 ks mt mv sw hv tk = some (if kv_mv kh p1 p2 = 0 then nI (kv_Wk kc fo kp qp qm qv qc (upd (va_cpy kh ks 0 0 8) p1.toNatClampNeg p2) n p) else kv_cd (kv_mv kh p1 p2), ks', mt', mv', sw', hv', tk') ∧ sw' 0 = 0 := by
  have c1 := kv_ivP hp
  unfold pf_L_calls_6
  by_cases c0 : kv_mv kh p1 p2 = 0
  · have c9 := (kv_mv_0 c0).1
    obtain ⟨mt', mv', sw', hv', tk', g1, g2, g3⟩ := u_kleast (fo := fo) (qm := qm) (qv := qv) (upd (va_cpy kh ks 0 0 8) p1.toNatClampNeg p2) hn hp hqp hqc hK hq mt mv sw hv tk h2
    refine ⟨upd (va_cpy kh ks 0 0 8) p1.toNatClampNeg p2, mt', mv', sw', hv', tk', ?_, g2⟩
    have hX : pf_X2_gapIf kc kh fo kp n qp qm qv qc (nI p) p1 p2 ks mt mv sw hv tk = some (.inl (nI (kv_Wk kc fo kp qp qm qv qc (upd (va_cpy kh ks 0 0 8) p1.toNatClampNeg p2) n p), upd (va_cpy kh ks 0 0 8) p1.toNatClampNeg p2, mt', mv', sw', hv', tk')) := by
      unfold pf_X2_gapIf kv_T
      rw [q_P, if_pos c1, q_mv2, if_pos c0]
      simp only [kv_x0_s, kv_g8 c9, show ((0 : Int32).toNatClampNeg) = 0 from rfl, show ((8 : Int32).toNatClampNeg) = 8 from rfl, g1, kv_q6_s, g3, kv_q1_s]
    rw [hX, if_pos c0]
    rfl
  · refine ⟨ks, mt, mv, sw, hv, tk, ?_, h2⟩
    have hX : pf_X2_gapIf kc kh fo kp n qp qm qv qc (nI p) p1 p2 ks mt mv sw hv tk = some (.inr (kv_mv kh p1 p2)) := by
      unfold pf_X2_gapIf
      rw [q_P, if_pos c1, kv_x0_s, q_mv2, if_neg c0]
      exact Eq.refl _
    have hle := kv_mv_le kh p1 p2
    rw [hX, if_neg c0]
    rcases (show kv_mv kh p1 p2 = 2 ∨ kv_mv kh p1 p2 = 3 by omega) with e | e
    · rw [e]; rfl
    · rw [e]; rfl
theorem u_all {kc kh : Nat → Int32} {fo : Nat → Nat → Int32} {kp qp qm qv qc : Nat → Int32} {p n : Nat} (p1 p2 p3 : Int32) (hn : n ≤ 12) (hp : p < 4) (hqp : ∀ i, i < n → kv_iv (qp i) 0 3 = true) (hqc : ∀ i, i < n → 0 ≤ qc i ∧ qc i ≤ 500) (hK : ∀ i, i < 8 → 1 ≤ kc i ∧ kc i ≤ 64) (hq : 0 ≤ kp p ∧ kp p ≤ 1000) (mt mv sw : Nat → Int32) (hv : Int32) (tk tn sc : Nat → Int32) (h2 : sw 0 = 0) : ∃ (mt' mv' sw' : Nat → Int32) (hv' : Int32) (tk' tn' sc' : Nat → Int32), pf_L_calls_5 kc kh fo kp n qp qm qv qc (nI p) p1 p2 p3 mt mv sw hv tk tn sc = some (if kv_ct (kv_use qp qc (nI p) (-1)) 0 n 0 ≤ 2 then nI (kv_Wk kc fo kp qp qm qv qc kh n p) else -2003, mt', mv', sw', hv', tk', tn', sc') ∧ sw' 0 = 0 := by
  have c1 := kv_ivP hp
  have hc : (nI p).toNatClampNeg = p := nI_clamp (by omega)
  unfold pf_L_calls_5
  rw [q_gbac kc kh fo kp n qp qm qv qc (nI p) mt mv sw hv tk tn sc hn c1]
  by_cases hct : kv_ct (kv_use qp qc (nI p) (-1)) 0 n 0 ≤ 2
  · rw [if_pos hct, if_pos hct]
    obtain ⟨sw', tk1, s1, s2, s3⟩ := q_start kc fo kp (nI p) sw hv tk c1 hK (by rw [hc]; exact hq) h2
    obtain ⟨mt', mv', tk', ktn', sc', v', g1, g2, g3, g4⟩ := q_gba kc kh fo kp n qp qm qv qc (nI p) sw' (nI (kv_hs fo (nI p).toNatClampNeg)) hn hqp hqc hK n kv_F 0 mt mv tk1 tn sc kv_v0 (fun S => S = 0) (by omega) (kv_Fgt (by omega)) s3 (fun S hS => by unfold kv_v0; by_cases e : S = 0; exact Or.inl (if_pos e); exact Or.inr (if_neg e)) (fun S hS => by unfold kv_v0; split <;> simp_all)
    rw [nI_0] at g1
    rw [hc] at s1 s2 g1
    have hh := kv_hs_lt fo p
    have hb : ∀ U, U < 256 → kv_S (kv_wN kc fo kp p) U 8 ≤ 512000 := fun U _ => by
      have := kv_S_le (U := U) (fun j hj => (kv_wNs (fo := fo) (hK j hj).1 (hK j hj).2 hq.1 hq.2).2) 8 (Nat.le_refl 8)
      omega
    have g5 := q_lu (cnt := 0) (W := fun U => kv_S (kv_wN kc fo kp p) U 8) s2 hb hh (by omega) g2
    rw [nI_0, kv_Lk_u kc fo kp qp qm qv qc kh n p (fun S hS => by rw [decide_eq_true_iff, ← g4 S hS]; omega)] at g5
    have g6 := q_ws s2 (kv_Lk_lt kc fo kp qp qm qv qc kh n p)
    refine ⟨mt', mv', sw', nI (kv_hs fo p), tk', ktn', sc', ?_, ?_⟩
    · rw [s1, kv_q3_s, g1, g5, kv_q1_s, g6, kv_q1_s]
      rfl
    · have := s2 0 (by omega)
      rw [kv_S0] at this
      exact this
  · rw [if_neg hct, if_neg hct]
    exact ⟨mt, mv, sw, hv, tk, tn, sc, rfl, h2⟩
theorem kv_Wk_p (kc : Nat → Int32) (fo : Nat → Nat → Int32) (kp qp qm qv qc hs : Nat → Int32) (n p : Nat) : (∀ S, S < 256 → kv_okk kc fo qp qm qv qc hs n p S = true → kv_Wk kc fo kp qp qm qv qc hs n p ≤ kv_S (kv_wN kc fo kp p) (kv_d (kv_hs fo p) S) 8) ∧ ∃ S, S < 256 ∧ kv_okk kc fo qp qm qv qc hs n p S = true ∧ kv_Wk kc fo kp qp qm qv qc hs n p = kv_S (kv_wN kc fo kp p) (kv_d (kv_hs fo p) S) 8 :=
  kv_pick_w (W := fun U => kv_S (kv_wN kc fo kp p) U 8) (kv_d_0 (kv_hs_lt fo p)) ((kv_okk_i kc fo qp qm qv qc hs n p 0).mpr (kv_reach_0 _ _ _ _ _ _ _ rfl))
theorem n_spare {kc kh : Nat → Int32} {fo : Nat → Nat → Int32} {kp qp qm qv qc : Nat → Int32} (r n p : Nat) (hn : n ≤ 12) (hrn : r < n) (hp : p < 4) (hqr : qp r = nI p) (hqp : ∀ i, i < n → kv_iv (qp i) 0 3 = true) (hqc : ∀ i, i < n → 0 ≤ qc i ∧ qc i ≤ 500) (hK : ∀ i, i < 8 → 1 ≤ kc i ∧ kc i ≤ 64) (hq : 0 ≤ kp p ∧ kp p ≤ 1000) (mt mv sw : Nat → Int32) (hv : Int32) (tk : Nat → Int32) (h2 : sw 0 = 0) : ∃ (M : Nat) (mt' mv' sw' : Nat → Int32) (hv' : Int32) (tk' : Nat → Int32), M ≤ (qc r).toInt.toNat ∧ pf_X2n_spare kc kh fo kp n qp qm qv qc (nI r) mt mv sw hv tk = some (nI (qc r).toInt.toNat - nI M, mt', mv', sw', hv', tk') ∧ sw' 0 = 0 ∧ ∀ x, x ≤ (qc r).toInt.toNat → kv_Wk kc fo kp qp qm qv qc kh n p ≤ kv_Wk kc fo kp qp qm qv (upd qc r (nI x)) kh n p ∧ (kv_Wk kc fo kp qp qm qv (upd qc r (nI x)) kh n p = kv_Wk kc fo kp qp qm qv qc kh n p ↔ M ≤ x) := by
  have hcp : (qp r).toNatClampNeg = p := by rw [hqr]; exact nI_clamp (by omega)
  have hq' : 0 ≤ kp (qp r).toNatClampNeg ∧ kp (qp r).toNatClampNeg ≤ 1000 := by rw [hcp]; exact hq
  have h1 := hqp r hrn
  obtain ⟨e1, e2⟩ := kv_cntN (hqc r hrn).1 (hqc r hrn).2
  generalize hall : (qc r).toInt.toNat = all at e1 e2 ⊢
  obtain ⟨sw', tk1, s1, s2, s3⟩ := q_start kc fo kp (qp r) sw hv tk h1 hK hq' h2
  obtain ⟨mt1, mv1, tk2, v1, g1, g2, g3, g4⟩ := q_lab kc fo kp n qp qm qv qc kh (nI r) (qp r) sw' (nI (kv_hs fo (qp r).toNatClampNeg)) hn hqp hqc hK n kv_F 0 mt mv tk1 kv_v0 (fun S => S = 0) (by omega) (kv_Fgt (by omega)) s3 (fun S hS => by unfold kv_v0; by_cases e : S = 0; exact Or.inl (if_pos e); exact Or.inr (if_neg e)) (fun S hS => by unfold kv_v0; split <;> simp_all)
  rw [nI_0] at g1
  have gA : pf_X2_layAllBut kc fo kp n qp qm qv qc (nI r) (qp r) kh mt mv sw hv tk = some (mt1, mv1, sw', nI (kv_hs fo (qp r).toNatClampNeg), tk2) := by
    unfold pf_X2_layAllBut
    rw [s1, kv_q3_s]
    exact g1
  obtain ⟨mt2, mv2, t1, t2⟩ := q_take kc fo n qp qm qv kh r mt1 mv1 h1 hK
  obtain ⟨tk3, v, l1, l2, l3⟩ := q_lo mt2 mv2 (kv_tk kc qm r) (fun j => kv_cv fo qp qm qv kh r (nI j)) t2 tk2 v1 g2
  generalize hA : kv_reach (kv_use qp qc (qp r) (nI r)) (kv_tk kc qm) (fun r j => kv_cv fo qp qm qv kh r (nI j)) (fun r => (qc r).toInt.toNat) 0 n (fun S => S = 0) = A at g4
  have hst : ∀ S, S < 256 → ∀ x, x < 1000000 → (v S ≤ x ↔ kv_step (kv_tk kc qm r) (fun j => kv_cv fo qp qm qv kh r (nI j)) x A S) := by
    intro S hS x hx
    rw [l3 S hS x]
    constructor
    · rintro ⟨a, U, q1, q2, q3, q4⟩
      rcases g3 a q1 with q | q
      · exact ⟨a, U, q1, q2, (g4 a q1).mp q, by omega, q4⟩
      · omega
    · rintro ⟨a, U, q1, q2, q3, q4, q5⟩
      have := (g4 a q1).mpr q3
      exact ⟨a, U, q1, q2, by omega, q5⟩
  have hA0 : A 0 := by rw [← hA]; exact kv_reach_0 _ _ _ _ _ _ _ rfl
  have hst0 : ∀ x, kv_step (kv_tk kc qm r) (fun j => kv_cv fo qp qm qv kh r (nI j)) x A 0 := fun x => ⟨0, 0, by omega, by omega, hA0, by rw [kv_S0]; exact Nat.zero_le x, by rw [kv_O0]; rfl⟩
  have hh := kv_hs_lt fo (qp r).toNatClampNeg
  have hd0 := kv_d_0 hh
  generalize hw : kv_wN kc fo kp (qp r).toNatClampNeg = wN at s2
  have hb : ∀ U, U < 256 → kv_S wN U 8 ≤ 512000 := fun U _ => by
    have := kv_S_le (U := U) (fun j hj => (kv_wNs (fo := fo) (hK j hj).1 (hK j hj).2 hq'.1 hq'.2).2) 8 (Nat.le_refl 8)
    rw [hw] at this
    omega
  generalize hhh : kv_hs fo (qp r).toNatClampNeg = h at gA s2 hh hd0
  have g5 := q_lu (cnt := all) (W := fun U => kv_S wN U 8) s2 hb hh e2 l2
  obtain ⟨m1, S0, m2, m3, m4⟩ := kv_pick_w (W := fun U => kv_S wN U 8) (d := kv_d h) (ok := fun S => decide (v S ≤ all)) hd0 (by rw [decide_eq_true_iff, hst 0 (by omega) all (by omega)]; exact hst0 all)
  have hL : kv_pick (fun U => kv_S wN U 8) (kv_d h) (fun S => decide (v S ≤ all)) 0 256 h < 256 := kv_pick_lt (fun i => kv_d_lt hh) 256 0 _ hh
  generalize kv_pick (fun U => kv_S wN U 8) (kv_d h) (fun S => decide (v S ≤ all)) 0 256 h = L at g5 m1 m4 hL
  have g6 := q_ws s2 hL
  obtain ⟨M, k1, k2, k3⟩ := q_lt (g := kv_S wN L 8) s2 hb (hb L hL) hh l2
  have hMa : M ≤ all := (k3 all (by omega)).mpr ⟨S0, m2, m4.symm, by rw [decide_eq_true_iff] at m3; exact m3⟩
  rw [hcp] at hw hhh
  have hX : pf_X2n_spare kc kh fo kp n qp qm qv qc (nI r) mt mv sw hv tk = some (nI all - nI M, mt2, mv2, sw', nI h, tk3) := by
    unfold pf_X2n_spare
    rw [n_rA hn hrn, kv_q1_s, gA, kv_q5_s, t1, kv_q2_s, l1, kv_q1_s, e1, g5, kv_q1_s, g6, kv_q1_s, k1, kv_q1_s]
  have hst2 : ∀ x, x ≤ all → ∀ S, S < 256 → (kv_okk kc fo qp qm qv (upd qc r (nI x)) kh n p S = true ↔ v S ≤ x) := by
    intro x hx S hS
    have hrx : upd qc r (nI x) r = nI x := if_pos rfl
    rw [kv_okk_i, ← hqr, hst S hS x (by omega)]
    have ho := kv_reach_out (use := kv_use qp qc (qp r) (nI r)) (use' := kv_use qp (upd qc r (nI x)) (qp r) (-1)) (t := kv_tk kc qm) (c := fun r j => kv_cv fo qp qm qv kh r (nI j)) (cnt := fun r => (qc r).toInt.toNat) (cnt' := fun j => (upd qc r (nI x) j).toInt.toNat) (r := r) (N := n) (fun i j _ => kv_cv_lt _ _ _ _ _ _ _) (by unfold kv_use; rw [decide_eq_true rfl]; rfl) (fun j h5 h6 => by
      have e : upd qc r (nI x) j = qc j := if_neg h6
      refine ⟨?_, congrArg (fun z : Int32 => z.toInt.toNat) e⟩
      unfold kv_use
      rw [decide_eq_false (kv_ni1 (by omega)), decide_eq_false (fun q => h6 ((nI_eq (by omega) (by omega)).mp q)), e]) n 0 (fun S => S = 0) S (Nat.zero_le r) (by omega) (by omega) hS
    rw [hA] at ho
    rw [ho]
    have hcx : (upd qc r (nI x) r).toInt.toNat = x := by rw [hrx, nI_toInt (by omega)]; rfl
    have hux : kv_use qp (upd qc r (nI x)) (qp r) (-1) r = !decide (x = 0) := by
      have h0 : nI x ≤ 0 ↔ x = 0 := by
        have := nI_leI (a := x) (b := 0) (by omega) (by omega)
        rw [nI_0] at this
        rw [this]; omega
      unfold kv_use
      rw [decide_eq_false (kv_ni1 (by omega)), decide_eq_true rfl, hrx]
      simp [h0]
    rw [hux]
    by_cases e : x = 0
    · rw [decide_eq_true e, e]
      exact (kv_step_0 (fun j hj => (kv_tk_le (hK j hj).2).2) S hS).symm
    · rw [decide_eq_false e]
      show kv_step _ _ ((upd qc r (nI x) r).toInt.toNat) A S ↔ _
      rw [hcx]
  have hup : upd qc r (nI all) = qc := by
    funext j
    unfold upd
    by_cases e : j = r
    · rw [if_pos e, e, e1]
    · rw [if_neg e]
  have hbase : kv_Wk kc fo kp qp qm qv qc kh n p = kv_S wN L 8 := by
    obtain ⟨n1, S2, n2, n3, n4⟩ := kv_Wk_p kc fo kp qp qm qv qc kh n p
    have ha := hst2 all (Nat.le_refl all)
    rw [hup] at ha
    rw [hw, hhh] at n4
    have f1 := m1 S2 n2 (by rw [decide_eq_true_iff]; exact (ha S2 n2).mp n3)
    have f2 := n1 S0 m2 ((ha S0 m2).mpr (by rw [decide_eq_true_iff] at m3; exact m3))
    rw [hw, hhh] at f2
    omega
  refine ⟨M, mt2, mv2, sw', nI h, tk3, hMa, hX, ?_, fun x hx => ?_⟩
  · have := s2 0 (by omega)
    rw [kv_S0] at this
    exact this
  · obtain ⟨n1, S2, n2, n3, n4⟩ := kv_Wk_p kc fo kp qp qm qv (upd qc r (nI x)) kh n p
    rw [hw, hhh] at n4
    have q2 := (hst2 x hx S2 n2).mp n3
    have f1 := m1 S2 n2 (by rw [decide_eq_true_iff]; omega)
    rw [hbase, k3 x (by omega)]
    refine ⟨by omega, ?_⟩
    constructor
    · intro q
      exact ⟨S2, n2, by omega, q2⟩
    · rintro ⟨S3, q1, q3, q4⟩
      have f2 := n1 S3 q1 ((hst2 x hx S3 q1).mpr q4)
      rw [hw, hhh] at f2
      omega
end KVL43
