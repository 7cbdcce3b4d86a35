theorem kv_pN {x : Int32} {n : Nat} (hn : n ≤ 12) (h : kv_iv x 0 (nI n - 1) = true) : x = nI x.toNatClampNeg := by
  obtain ⟨a, b⟩ := kv_ivR hn h
  apply Int32.toInt_inj.mp
  rw [nI_toInt (by rw [kv_clamp]; omega), kv_clamp]
  omega
set_option maxHeartbeats 1000000 in
theorem ag_spare (kc : Nat → Int32) (kh : Nat → Int32) (fo : Nat → Nat → Int32) (kl : Nat → Int32) (kp : Nat → Int32) (dy : Int32) (n : Nat) (qp : Nat → Int32) (qm : Nat → Int32) (ql : Nat → Int32) (qv : Nat → Int32) (qc : Nat → Int32) (qe : Nat → Int32) (mt : Nat → Int32) (mv : Nat → Int32) (sw : Nat → Int32) (hv : Int32) (tk : Nat → Int32) (th : Int32) (nw : Int32) (co : Nat → Int32) (ho : Nat → Int32) (ve : Nat → Int32) (la : Nat → Int32) (pr : Nat → Int32) (rg : Int32) (rp : Nat → Int32) (rm : Nat → Int32) (rc : Nat → Int32) (re : Nat → Int32) (ro : Nat → Int32) (rl : Nat → Int32) (mcn : Nat → Int32) (mtn : Nat → Int32) (mtk : Nat → Int32) (msp : Nat → Int32) (ba : Int32) (p0 : Int32) (hI : kv_inv kc kh fo kl kp dy n qp qm ql qv qc qe sw nw co ho ve la pr rg rp rm rc re ro rl mtk msp) : (pf_X2_spare kc kh fo kp n qp qm qv qc p0 mt mv sw hv tk ≠ none) ∧ (∀ c9, pf_X2_spare kc kh fo kp n qp qm qv qc p0 mt mv sw hv tk = some (.inr c9) → c9 = 1) ∧ (pf_X3_spare co ho ve pr rg rp rm ro p0 th rc mcn mtn mtk msp ba ≠ none) ∧ (∀ (v : Int32) (mt' : Nat → Int32) (mv' : Nat → Int32) (sw' : Nat → Int32) (hv' : Int32) (tk' : Nat → Int32) (b9 : Int32) (th' : Int32) (rc' : Nat → Int32) (mcn' : Nat → Int32) (mtn' : Nat → Int32) (mtk' : Nat → Int32) (msp' : Nat → Int32) (ba' : Int32), pf_X2_spare kc kh fo kp n qp qm qv qc p0 mt mv sw hv tk = some (.inl (v, mt', mv', sw', hv', tk')) → pf_X3_spare co ho ve pr rg rp rm ro p0 th rc mcn mtn mtk msp ba = some (b9, th', rc', mcn', mtn', mtk', msp', ba') → th' = 0 ∧ v = b9 ∧ kv_inv kc kh fo kl kp dy n qp qm ql qv qc qe sw' nw co ho ve la pr rg rp rm rc' re ro rl mtk' msp') ∧ (∀ (b9 : Int32) (th' : Int32) (rc' : Nat → Int32) (mcn' : Nat → Int32) (mtn' : Nat → Int32) (mtk' : Nat → Int32) (msp' : Nat → Int32) (ba' : Int32), pf_X2_spare kc kh fo kp n qp qm qv qc p0 mt mv sw hv tk = some (.inr 1) → pf_X3_spare co ho ve pr rg rp rm ro p0 th rc mcn mtn mtk msp ba = some (b9, th', rc', mcn', mtn', mtk', msp', ba') → th' = 1 ∧ kv_inv kc kh fo kl kp dy n qp qm ql qv qc qe sw nw co ho ve la pr rg rp rm rc' re ro rl mtk' msp') := by
  obtain ⟨⟨hn, hrg, hdy, hk1, hk2⟩, hM, hF, hP, hR, hO⟩ := hI
  subst hrg
  subst hdy
  cases c1 : kv_iv p0 0 (nI n - 1)
  · skip
    have hX : pf_X2_spare kc kh fo kp n qp qm qv qc p0 mt mv sw hv tk = some (.inr 1) := by simp [q_rg, q_M, q_P, q_in, q_isM, q_isP, q_isR, kv_x0, kv_x1, kv_q0, kv_q1, kv_q2, kv_q7, kv_q9, kv_T, pf_X3_fails, q_rA hn, pf_X2_spare, c1]
    have hY : pf_X3_spare co ho ve pr (nI n) rp rm ro p0 th rc mcn mtn mtk msp ba = some (0, 1, rc, mcn, mtn, mtk, msp, ba) := by simp [q_rg, q_M, q_P, q_in, q_isM, q_isP, q_isR, kv_x0, kv_x1, kv_q0, kv_q1, kv_q2, kv_q7, kv_q9, kv_T, pf_X3_fails, pf_X3_spare, c1]
    rw [hX, hY]
    exact ⟨(by intro c; cases c), (by intro c9 c; cases c; decide), (by intro c; cases c), (by intro q0 q1 q2 q3 q4 q5 q6 q7 q8 q9 q10 q11 q12 q13 c; cases c), (by intro q0 q1 q2 q3 q4 q5 q6 q7 _ c; cases c; exact ⟨rfl, ⟨hn, rfl, rfl, hk1, hk2⟩, hM, hF, hP, hR, hO⟩)⟩
  · skip
    have hp0 := kv_pN hn c1
    have hk := kv_cR hn c1
    obtain ⟨M, mt9, mv9, sw9, hv9, tk9, rc9, cn9, tn9, mtk9, msp9, ba9, g1, g3, g4, g5, g6, g7, g8⟩ := q_spare (kh := kh) p0.toNatClampNeg n hn hk (fun i hi => ⟨(hM i hi).1.symm, (hM i hi).2.1.symm, (hM i hi).2.2.1, (hM i hi).2.2.2.1⟩) (fun i j hi hj => (hF i j hi hj).1.symm) (fun j hj => ⟨(hP j hj).2.1.symm, (hP j hj).2.2.2.2.1, (hP j hj).2.2.2.2.2⟩) (fun i hi => ⟨(hR i hi).1, (hR i hi).2.1, (hR i hi).2.2.2.1, (hR i hi).2.2.2.2.1, (hR i hi).2.2.2.2.2.2.1, (hR i hi).2.2.2.2.2.2.2.1, (hR i hi).2.2.2.2.2.2.2.2.2.2.1, (hR i hi).2.2.2.2.2.2.2.2.2.2.2.2.2.1⟩) (by rw [← hp0]; exact c1) mt mv sw hv tk hk2.2 th mcn mtn mtk msp ba hk1 hk2.1
    rw [← hp0] at g1 g3
    have hX : pf_X2_spare kc kh fo kp n qp qm qv qc p0 mt mv sw hv tk = some (.inl (qc p0.toNatClampNeg - nI M, mt9, mv9, sw9, hv9, tk9)) := g1
    have hY : pf_X3_spare co ho ve pr (nI n) rp rm ro p0 th rc mcn mtn mtk msp ba = some (qc p0.toNatClampNeg - nI M, 0, rc9, cn9, tn9, mtk9, msp9, ba9) := g3
    rw [hX, hY]
    refine ⟨(by intro c; cases c), (by intro c9 c; cases c), (by intro c; cases c), ?_, (by intro q0 q1 q2 q3 q4 q5 q6 q7 c; cases c)⟩
    intro q0 q1 q2 q3 q4 q5 q6 q7 q8 q9 q10 q11 q12 q13 c d
    cases c
    cases d
    refine ⟨rfl, rfl, ⟨hn, rfl, rfl, g5, g6, g4⟩, hM, hF, hP, fun i hi => ?_, hO⟩
    obtain ⟨a1, a2, a3, a4, a5, a6⟩ := hR i hi
    refine ⟨a1, a2, a3, a4, ?_, a6⟩
    by_cases e : i = p0.toNatClampNeg
    · rw [e]; exact g8.symm
    · rw [g7 i e]; exact a5
