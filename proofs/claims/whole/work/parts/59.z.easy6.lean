section KVP19
theorem kv_q3_s {A B C β : Type} (a : A) (b : B) (c : C) (k : A → B → C → Option β) : kv_q3 (some (a, b, c)) k = k a b c := rfl
theorem q_fewc (n : Nat) (qp qc : Nat → Int32) (p0 : Int32) (hn : n ≤ 12) : pf_X2_requireFewRights n qp qc p0 = if kv_ct (kv_use qp qc p0 (-1)) 0 n 0 ≤ 2 then some (.inl ()) else some (.inr 3) := by
  have h := q_few2 n qp qc p0 hn n kv_F 0 0 (by omega) (kv_Fgt (by omega)) (Nat.le_refl 0)
  rw [nI_0] at h
  exact h
theorem q_gbac (kc kh : Nat → Int32) (fo : Nat → Nat → Int32) (kp : Nat → Int32) (n : Nat) (qp qm qv qc : Nat → Int32) (p0 : Int32) (mt mv sw : Nat → Int32) (hv : Int32) (tk tn sc : Nat → Int32) (hn : n ≤ 12) (c1 : kv_iv p0 0 3 = true) : pf_X2_gapByAll kc kh fo kp n qp qm qv qc p0 mt mv sw hv tk tn sc = if kv_ct (kv_use qp qc p0 (-1)) 0 n 0 ≤ 2 then kv_q3 (pf_X2_startLayings kc fo kp p0 sw hv tk) (fun o0_11 o1_11 o2_11 => pf_X2_gapByAll_16 kc kh fo kp n qp qm qv qc p0 kv_F 0 mt mv o0_11 o1_11 o2_11 tn sc) else some (.inr 3) := by
  unfold pf_X2_gapByAll
  rw [q_P, if_pos c1, kv_x0_s, q_fewc n qp qc p0 hn]
  by_cases c2 : kv_ct (kv_use qp qc p0 (-1)) 0 n 0 ≤ 2
  · rw [if_pos c2, if_pos c2, kv_x0_s]
  · rw [if_neg c2, if_neg c2]
    exact Eq.refl _
theorem q_gbam (co ho ve pr rp rm rc ro : Nat → Int32) (p0 : Int32) (n : Nat) (qp : Nat → Int32) (cn tn tk sp : Nat → Int32) (th ba : Int32) (hn : n ≤ 12) (hrp : ∀ i, i < n → rp i = qp i) (c1 : kv_iv p0 0 3 = true) : pf_X3_gapByAll co ho ve pr (nI n) rp rm rc ro p0 th cn tn tk sp ba = if kv_ct (kv_use qp rc p0 (-1)) 0 n 0 ≤ 2 then kv_q6 (pf_X3_least co ho ve pr (nI n) rp rm rc ro p0 cn tn tk sp ba) (fun r_78 o0_78 o1_78 o2_78 o3_78 o4_78 => some (r_78, 0, o0_78, o1_78, o2_78, o3_78, o4_78)) else some (0, 2, cn, tn, tk, sp, ba) := by
  have h := q_few3 co ho ve pr rp rm rc ro p0 n qp cn tn tk sp 0 ba hn hrp n kv_F 0 0 (by omega) (kv_Fgt (by omega)) (Nat.le_refl 0)
  rw [nI_0] at h
  unfold pf_X3_gapByAll
  rw [q_isP, if_pos c1, kv_q1_s, if_neg (show ¬ ((1 : Int32) = 0) by decide)]
  exact h
theorem kv_ct_c {use use' : Nat → Bool} : ∀ (k i x : Nat), (∀ j, i ≤ j → j < i + k → use j = use' j) → kv_ct use i k x = kv_ct use' i k x := by
  intro k
  induction k with
  | zero => intro i x _; rfl
  | succ k ih =>
    intro i x h
    show kv_ct use (i + 1) k _ = kv_ct use' (i + 1) k _
    rw [h i (Nat.le_refl i) (by omega)]
    exact ih (i + 1) _ (fun j a b => h j (by omega) (by omega))
theorem q_bothA {kc kh : Nat → Int32} {fo : Nat → Nat → Int32} {kp qp qm qv qc : Nat → Int32} {co ho ve pr rp rm rc ro : Nat → Int32} (p0 : Int32) (n : Nat) (hn : n ≤ 12) (h1 : kv_iv p0 0 3 = true) (hM : ∀ i, i < 8 → co i = kc i ∧ ho i = kh i ∧ 1 ≤ kc i ∧ kc i ≤ 64) (hV : ∀ i j, i < 8 → j < 4 → ve (4 * i + j) = fo i j) (hP : pr p0.toNatClampNeg = kp p0.toNatClampNeg ∧ 0 ≤ kp p0.toNatClampNeg ∧ kp p0.toNatClampNeg ≤ 1000) (hR : ∀ i, i < n → qp i = rp i ∧ qm i = rm i ∧ qv i = ro i ∧ qc i = rc i ∧ 0 ≤ qp i ∧ qp i ≤ 3 ∧ 0 ≤ qc i ∧ qc i ≤ 500) (mt mv sw : Nat → Int32) (hv : Int32) (tk ktn sc : Nat → Int32) (h2 : sw 0 = 0) (cn tn mtk msp : Nat → Int32) (ba : Int32) (h3 : mtk 0 = 0) (h4 : msp 0 = 0) (hct : kv_ct (kv_use qp qc p0 (-1)) 0 n 0 ≤ 2) :
    ∃ (L w : Nat) (mt' mv' sw' : Nat → Int32) (hv' : Int32) (tk' ktn' sc' cn' tn' mtk' msp' : Nat → Int32), pf_X2_gapByAll kc kh fo kp n qp qm qv qc p0 mt mv sw hv tk ktn sc = some (.inl (nI w, mt', mv', sw', hv', tk', ktn', sc')) ∧ pf_X3_least co ho ve pr (nI n) rp rm rc ro p0 cn tn mtk msp ba = some (nI w, cn', tn', mtk', msp', nI L) ∧ sw' 0 = 0 ∧ mtk' 0 = 0 ∧ msp' 0 = 0 := by
  have hqp : ∀ i, i < n → kv_iv (qp i) 0 3 = true := fun i hi => by
    obtain ⟨_, _, _, _, a, b, _⟩ := hR i hi
    exact kv_ivT.mpr ⟨Int32.le_iff_toInt_le.mp a, Int32.le_iff_toInt_le.mp b⟩
  have hqc : ∀ i, i < n → 0 ≤ qc i ∧ qc i ≤ 500 := fun i hi => (hR i hi).2.2.2.2.2.2
  have hrc : ∀ i, i < n → 0 ≤ rc i ∧ rc i ≤ 500 := fun i hi => by rw [← (hR i hi).2.2.2.1]; exact hqc i hi
  have hsm : ∀ r, r < n → kv_same kc fo qp qm qv kh r co ho ve rp rm ro := fun r hr => ⟨by omega, hqp r hr, (hR r hr).1.symm, (hR r hr).2.1.symm, (hR r hr).2.2.1.symm, fun i hi => ⟨(hM i hi).2.1, (hM i hi).1, (hM i hi).2.2⟩, hV⟩
  obtain ⟨L2, ok2, cn', tn', mtk', msp', w1, w2, w3, w4, w5⟩ := q_model pr rc p0 n hn hsm hrc h1 (fun i hi => ⟨(hM i hi).1, (hM i hi).2.2⟩) hV hP.1 hP.2 cn tn mtk msp ba h3 h4
  obtain ⟨sw', tk1, s1, s2, s3⟩ := q_start kc fo kp p0 sw hv tk h1 (fun i hi => (hM i hi).2.2) hP.2 h2
  obtain ⟨mt', mv', tk', ktn', sc', v', g1, g2, g3, g4⟩ := q_gba kc kh fo kp n qp qm qv qc p0 sw' (nI (kv_hs fo p0.toNatClampNeg)) hn hqp hqc (fun i hi => (hM i hi).2.2) n kv_F 0 mt mv tk1 ktn sc kv_v0 (fun S => S = 0) (by omega) (kv_Fgt (by omega)) s3 (fun S hS => by unfold kv_v0; by_cases e : S = 0; exact Or.inl (if_pos e); exact Or.inr (if_neg e)) (fun S hS => by unfold kv_v0; split <;> simp_all)
  rw [nI_0] at g1
  have hh := kv_hs_lt fo p0.toNatClampNeg
  have hb : ∀ U, U < 256 → kv_S (kv_wN kc fo kp p0.toNatClampNeg) U 8 ≤ 512000 := fun U _ => by
    have := kv_S_le (U := U) (fun j hj => (kv_wNs (fo := fo) (hM j hj).2.2.1 (hM j hj).2.2.2 hP.2.1 hP.2.2).2) 8 (Nat.le_refl 8)
    omega
  have g5 := q_lu (cnt := 0) (W := fun U => kv_S (kv_wN kc fo kp p0.toNatClampNeg) U 8) s2 hb hh (by omega) g2
  rw [nI_0] at g5
  have hL : kv_pick (fun U => kv_S (kv_wN kc fo kp p0.toNatClampNeg) U 8) (kv_d (kv_hs fo p0.toNatClampNeg)) (fun S => decide (v' S ≤ 0)) 0 256 (kv_hs fo p0.toNatClampNeg) < 256 := kv_pick_lt (fun i => kv_d_lt hh) 256 0 _ hh
  have g6 := q_ws s2 hL
  have hLL := kv_same_pick (fun S hS => by rw [decide_eq_true_iff, ← g4 S hS]; omega) w4 (q_re kc fo qp qm qv qc kh rc p0 n (fun i hi => (hR i hi).2.2.2.1) n 0 (fun S => S = 0) (by omega)) (rfl : kv_pick (fun U => kv_S (kv_wN kc fo kp p0.toNatClampNeg) U 8) (kv_d (kv_hs fo p0.toNatClampNeg)) (fun S => decide (v' S ≤ 0)) 0 256 (kv_hs fo p0.toNatClampNeg) = _) w5
  rw [hLL] at g5 g6
  refine ⟨L2, _, mt', mv', sw', nI (kv_hs fo p0.toNatClampNeg), tk', ktn', sc', cn', tn', mtk', msp', ?_, w1, ?_, w2, w3⟩
  · rw [q_gbac kc kh fo kp n qp qm qv qc p0 mt mv sw hv tk ktn sc hn h1, if_pos hct, s1, kv_q3_s]
    refine g1.trans ?_
    rw [g5, kv_q1_s, g6, kv_q1_s]
  · have := s2 0 (by omega)
    rw [kv_S0] at this
    exact this
end KVP19
set_option maxHeartbeats 1000000 in
theorem ag_gapByAll (kc : Nat → Int32) (kh : Nat → Int32) (fo : Nat → Nat → Int32) (kl : Nat → Int32) (kp : Nat → Int32) (dy : Int32) (n : Nat) (qp : Nat → Int32) (qm : Nat → Int32) (ql : Nat → Int32) (qv : Nat → Int32) (qc : Nat → Int32) (qe : Nat → Int32) (mt : Nat → Int32) (mv : Nat → Int32) (sw : Nat → Int32) (hv : Int32) (tk : Nat → Int32) (tn : Nat → Int32) (sc : Nat → Int32) (th : Int32) (nw : Int32) (co : Nat → Int32) (ho : Nat → Int32) (ve : Nat → Int32) (la : Nat → Int32) (pr : Nat → Int32) (rg : Int32) (rp : Nat → Int32) (rm : Nat → Int32) (rc : Nat → Int32) (re : Nat → Int32) (ro : Nat → Int32) (rl : Nat → Int32) (mcn : Nat → Int32) (mtn : Nat → Int32) (mtk : Nat → Int32) (msp : Nat → Int32) (ba : Int32) (p0 : Int32) (hI : kv_inv kc kh fo kl kp dy n qp qm ql qv qc qe sw nw co ho ve la pr rg rp rm rc re ro rl mtk msp) : (pf_X2_gapByAll kc kh fo kp n qp qm qv qc p0 mt mv sw hv tk tn sc ≠ none) ∧ (∀ c9, pf_X2_gapByAll kc kh fo kp n qp qm qv qc p0 mt mv sw hv tk tn sc = some (.inr c9) → c9 = 1 ∨ c9 = 3) ∧ (pf_X3_gapByAll co ho ve pr rg rp rm rc ro p0 th mcn mtn mtk msp ba ≠ none) ∧ (∀ (v : Int32) (mt' : Nat → Int32) (mv' : Nat → Int32) (sw' : Nat → Int32) (hv' : Int32) (tk' : Nat → Int32) (tn' : Nat → Int32) (sc' : Nat → Int32) (b9 : Int32) (th' : Int32) (mcn' : Nat → Int32) (mtn' : Nat → Int32) (mtk' : Nat → Int32) (msp' : Nat → Int32) (ba' : Int32), pf_X2_gapByAll kc kh fo kp n qp qm qv qc p0 mt mv sw hv tk tn sc = some (.inl (v, mt', mv', sw', hv', tk', tn', sc')) → pf_X3_gapByAll co ho ve pr rg rp rm rc ro p0 th mcn mtn mtk msp ba = some (b9, th', mcn', mtn', mtk', msp', ba') → th' = 0 ∧ v = b9 ∧ kv_inv kc kh fo kl kp dy n qp qm ql qv qc qe sw' nw co ho ve la pr rg rp rm rc re ro rl mtk' msp') ∧ (∀ (b9 : Int32) (th' : Int32) (mcn' : Nat → Int32) (mtn' : Nat → Int32) (mtk' : Nat → Int32) (msp' : Nat → Int32) (ba' : Int32), pf_X2_gapByAll kc kh fo kp n qp qm qv qc p0 mt mv sw hv tk tn sc = some (.inr 1) → pf_X3_gapByAll co ho ve pr rg rp rm rc ro p0 th mcn mtn mtk msp ba = some (b9, th', mcn', mtn', mtk', msp', ba') → th' = 1 ∧ kv_inv kc kh fo kl kp dy n qp qm ql qv qc qe sw nw co ho ve la pr rg rp rm rc re ro rl mtk' msp') ∧ (∀ (b9 : Int32) (th' : Int32) (mcn' : Nat → Int32) (mtn' : Nat → Int32) (mtk' : Nat → Int32) (msp' : Nat → Int32) (ba' : Int32), pf_X2_gapByAll kc kh fo kp n qp qm qv qc p0 mt mv sw hv tk tn sc = some (.inr 3) → pf_X3_gapByAll co ho ve pr rg rp rm rc ro p0 th mcn mtn mtk msp ba = some (b9, th', mcn', mtn', mtk', msp', ba') → th' = 2 ∧ kv_inv kc kh fo kl kp dy n qp qm ql qv qc qe sw nw co ho ve la pr rg rp rm rc re ro rl mtk' msp') := by
  obtain ⟨⟨hn, hrg, hdy, hk1, hk2⟩, hM, hF, hP, hR, hO⟩ := hI
  subst hrg
  subst hdy
  cases c1 : kv_iv p0 0 3
  · skip
    have hX : pf_X2_gapByAll kc kh fo kp n qp qm qv qc p0 mt mv sw hv tk tn sc = some (.inr 1) := by simp [q_rg, q_M, q_P, q_in, q_isM, q_isP, q_isR, kv_x0, kv_x1, kv_q0, kv_q1, kv_q2, kv_q7, kv_q9, kv_T, pf_X3_fails, pf_X2_gapByAll, c1]
    have hY : pf_X3_gapByAll co ho ve pr (nI n) rp rm rc ro p0 th mcn mtn mtk msp ba = some (0, 1, mcn, mtn, mtk, msp, ba) := by simp [q_rg, q_M, q_P, q_in, q_isM, q_isP, q_isR, kv_x0, kv_x1, kv_q0, kv_q1, kv_q2, kv_q7, kv_q9, kv_T, pf_X3_fails, pf_X3_gapByAll, c1]
    rw [hX, hY]
    exact ⟨(by intro c; cases c), (by intro c9 c; cases c; decide), (by intro c; cases c), (by intro q0 q1 q2 q3 q4 q5 q6 q7 q8 q9 q10 q11 q12 q13 q14 c; cases c), (by intro q0 q1 q2 q3 q4 q5 q6 _ c; cases c; exact ⟨rfl, ⟨hn, rfl, rfl, hk1, hk2⟩, hM, hF, hP, hR, hO⟩), (by intro q0 q1 q2 q3 q4 q5 q6 c; cases c)⟩
  · skip
    have hcx := q_gbac kc kh fo kp n qp qm qv qc p0 mt mv sw hv tk tn sc hn c1
    have hcm := q_gbam co ho ve pr rp rm rc ro p0 n qp mcn mtn mtk msp th ba hn (fun i hi => (hR i hi).1.symm) c1
    have hce := kv_ct_c (use := kv_use qp rc p0 (-1)) (use' := kv_use qp qc p0 (-1)) n 0 0 (fun j _ hj => by unfold kv_use; rw [(hR j (by omega)).2.2.2.2.1])
    rw [hce] at hcm
    by_cases c2 : ¬ kv_ct (kv_use qp qc p0 (-1)) 0 n 0 ≤ 2
    · skip
      have hX : pf_X2_gapByAll kc kh fo kp n qp qm qv qc p0 mt mv sw hv tk tn sc = some (.inr 3) := by rw [hcx, if_neg c2]
      have hY : pf_X3_gapByAll co ho ve pr (nI n) rp rm rc ro p0 th mcn mtn mtk msp ba = some (0, 2, mcn, mtn, mtk, msp, ba) := by rw [hcm, if_neg c2]
      rw [hX, hY]
      exact ⟨(by intro c; cases c), (by intro c9 c; cases c; decide), (by intro c; cases c), (by intro q0 q1 q2 q3 q4 q5 q6 q7 q8 q9 q10 q11 q12 q13 q14 c; cases c), (by intro q0 q1 q2 q3 q4 q5 q6 c; cases c), (by intro q0 q1 q2 q3 q4 q5 q6 _ c; cases c; exact ⟨rfl, ⟨hn, rfl, rfl, hk1, hk2⟩, hM, hF, hP, hR, hO⟩)⟩
    · skip
      have c3 : kv_ct (kv_use qp qc p0 (-1)) 0 n 0 ≤ 2 := by omega
      obtain ⟨L, w, mt9, mv9, sw9, hv9, tk9, ktn9, sc9, cn9, tn9, mtk9, msp9, g1, g3, g4, g5, g6⟩ := q_bothA (kh := kh) p0 n hn c1 (fun i hi => ⟨(hM i hi).1.symm, (hM i hi).2.1.symm, (hM i hi).2.2.1, (hM i hi).2.2.2.1⟩) (fun i j hi hj => (hF i j hi hj).1.symm) ⟨((hP _ (kv_c4 c1)).2.1).symm, (hP _ (kv_c4 c1)).2.2.2.2.1, (hP _ (kv_c4 c1)).2.2.2.2.2⟩ (fun i hi => ⟨(hR i hi).1, (hR i hi).2.1, (hR i hi).2.2.2.1, (hR i hi).2.2.2.2.1, (hR i hi).2.2.2.2.2.2.1, (hR i hi).2.2.2.2.2.2.2.1, (hR i hi).2.2.2.2.2.2.2.2.2.2.1, (hR i hi).2.2.2.2.2.2.2.2.2.2.2.2.2.1⟩) mt mv sw hv tk tn sc hk2.2 mcn mtn mtk msp ba hk1 hk2.1 c3
      have hX : pf_X2_gapByAll kc kh fo kp n qp qm qv qc p0 mt mv sw hv tk tn sc = some (.inl (nI w, mt9, mv9, sw9, hv9, tk9, ktn9, sc9)) := g1
      have hY : pf_X3_gapByAll co ho ve pr (nI n) rp rm rc ro p0 th mcn mtn mtk msp ba = some (nI w, 0, cn9, tn9, mtk9, msp9, nI L) := by rw [hcm, if_pos c3, g3, kv_q6_s]
      rw [hX, hY]
      refine ⟨(by intro c; cases c), (by intro c9 c; cases c), (by intro c; cases c), ?_, (by intro q0 q1 q2 q3 q4 q5 q6 c; cases c), (by intro q0 q1 q2 q3 q4 q5 q6 c; cases c)⟩
      intro q0 q1 q2 q3 q4 q5 q6 q7 q8 q9 q10 q11 q12 q13 q14 c d
      cases c
      cases d
      exact ⟨rfl, rfl, ⟨hn, rfl, rfl, g5, g6, g4⟩, hM, hF, hP, hR, hO⟩
