set_option maxHeartbeats 1000000 in
theorem ag_move (kc : Nat → Int32) (kh : Nat → Int32) (fo : Nat → Nat → Int32) (kl : Nat → Int32) (kp : Nat → Int32) (dy : Int32) (n : Nat) (qp : Nat → Int32) (qm : Nat → Int32) (ql : Nat → Int32) (qv : Nat → Int32) (qc : Nat → Int32) (qe : Nat → Int32) (sw : Nat → Int32) (th : Int32) (nw : Int32) (co : Nat → Int32) (ho : Nat → Int32) (ve : Nat → Int32) (la : Nat → Int32) (pr : Nat → Int32) (rg : Int32) (rp : Nat → Int32) (rm : Nat → Int32) (rc : Nat → Int32) (re : Nat → Int32) (ro : Nat → Int32) (rl : Nat → Int32) (mtk : Nat → Int32) (msp : Nat → Int32) (p0 : Int32) (p1 : Int32) (hI : kv_inv kc kh fo kl kp dy n qp qm ql qv qc qe sw nw co ho ve la pr rg rp rm rc re ro rl mtk msp) : (pf_X2_move p0 p1 kh ≠ none) ∧ (∀ c9, pf_X2_move p0 p1 kh = some (.inr c9) → c9 = 1 ∨ c9 = 2 ∨ c9 = 3) ∧ (pf_X3_move p0 p1 th ho ≠ none) ∧ (∀ (v : Int32) (kh' : Nat → Int32) (b9 : Int32) (th' : Int32) (ho' : Nat → Int32), pf_X2_move p0 p1 kh = some (.inl (v, kh')) → pf_X3_move p0 p1 th ho = some (b9, th', ho') → th' = 0 ∧ v = b9 ∧ kv_inv kc kh' fo kl kp dy n qp qm ql qv qc qe sw nw co ho' ve la pr rg rp rm rc re ro rl mtk msp) ∧ (∀ (b9 : Int32) (th' : Int32) (ho' : Nat → Int32), pf_X2_move p0 p1 kh = some (.inr 1) → pf_X3_move p0 p1 th ho = some (b9, th', ho') → th' = 1 ∧ kv_inv kc kh fo kl kp dy n qp qm ql qv qc qe sw nw co ho' ve la pr rg rp rm rc re ro rl mtk msp) ∧ (∀ (b9 : Int32) (th' : Int32) (ho' : Nat → Int32), pf_X2_move p0 p1 kh = some (.inr 2) → pf_X3_move p0 p1 th ho = some (b9, th', ho') → th' = 2 ∧ kv_inv kc kh fo kl kp dy n qp qm ql qv qc qe sw nw co ho' ve la pr rg rp rm rc re ro rl mtk msp) ∧ (∀ (b9 : Int32) (th' : Int32) (ho' : Nat → Int32), pf_X2_move p0 p1 kh = some (.inr 3) → pf_X3_move p0 p1 th ho = some (b9, th', ho') → th' = 3 ∧ kv_inv kc kh fo kl kp dy n qp qm ql qv qc qe sw nw co ho' ve la pr rg rp rm rc re ro rl mtk msp) := by
  obtain ⟨⟨hn, hrg, hdy, hk1, hk2⟩, hM, hF, hP, hR, hO⟩ := hI
  subst hrg
  subst hdy
  have hmv := kv_mv_c (fun i hi => (hM i hi).2.1) p0 p1
  have hrf := q_mv3 ho p0 p1
  rw [← hmv] at hrf
  by_cases c1 : kv_mv kh p0 p1 = 1
  · skip
    have hX : pf_X2_move p0 p1 kh = some (.inr 1) := by simp [q_rg, q_M, q_P, q_in, q_isM, q_isP, q_isR, kv_x0, kv_x1, kv_q0, kv_q1, kv_q2, kv_q7, kv_q9, kv_T, pf_X3_fails, pf_X2_move, q_mv2, show nI 1 = 1 from rfl, show nI 2 = 2 from rfl, show nI 3 = 3 from rfl, nI_0, c1]
    have hY : pf_X3_move p0 p1 th ho = some (0, 1, ho) := by simp [q_rg, q_M, q_P, q_in, q_isM, q_isP, q_isR, kv_x0, kv_x1, kv_q0, kv_q1, kv_q2, kv_q7, kv_q9, kv_T, pf_X3_fails, pf_X3_move, hrf, show nI 1 = 1 from rfl, show nI 2 = 2 from rfl, show nI 3 = 3 from rfl, nI_0, show ¬ ((1 : Int32) ≤ 0) by decide, show ¬ ((2 : Int32) ≤ 0) by decide, show ¬ ((3 : Int32) ≤ 0) by decide, c1]
    rw [hX, hY]
    exact ⟨(by intro c; cases c), (by intro c9 c; cases c; decide), (by intro c; cases c), (by intro q0 q1 q2 q3 q4 c; cases c), (by intro q0 q1 q2 _ c; cases c; exact ⟨rfl, ⟨hn, rfl, rfl, hk1, hk2⟩, hM, hF, hP, hR, hO⟩), (by intro q0 q1 q2 c; cases c), (by intro q0 q1 q2 c; cases c)⟩
  · skip
    by_cases c2 : kv_mv kh p0 p1 = 2
    · skip
      have hX : pf_X2_move p0 p1 kh = some (.inr 2) := by simp [q_rg, q_M, q_P, q_in, q_isM, q_isP, q_isR, kv_x0, kv_x1, kv_q0, kv_q1, kv_q2, kv_q7, kv_q9, kv_T, pf_X3_fails, pf_X2_move, q_mv2, show nI 1 = 1 from rfl, show nI 2 = 2 from rfl, show nI 3 = 3 from rfl, nI_0, c1, c2]
      have hY : pf_X3_move p0 p1 th ho = some (0, 2, ho) := by simp [q_rg, q_M, q_P, q_in, q_isM, q_isP, q_isR, kv_x0, kv_x1, kv_q0, kv_q1, kv_q2, kv_q7, kv_q9, kv_T, pf_X3_fails, pf_X3_move, hrf, show nI 1 = 1 from rfl, show nI 2 = 2 from rfl, show nI 3 = 3 from rfl, nI_0, show ¬ ((1 : Int32) ≤ 0) by decide, show ¬ ((2 : Int32) ≤ 0) by decide, show ¬ ((3 : Int32) ≤ 0) by decide, c1, c2]
      rw [hX, hY]
      exact ⟨(by intro c; cases c), (by intro c9 c; cases c; decide), (by intro c; cases c), (by intro q0 q1 q2 q3 q4 c; cases c), (by intro q0 q1 q2 c; cases c), (by intro q0 q1 q2 _ c; cases c; exact ⟨rfl, ⟨hn, rfl, rfl, hk1, hk2⟩, hM, hF, hP, hR, hO⟩), (by intro q0 q1 q2 c; cases c)⟩
    · skip
      by_cases c3 : kv_mv kh p0 p1 = 3
      · skip
        have hX : pf_X2_move p0 p1 kh = some (.inr 3) := by simp [q_rg, q_M, q_P, q_in, q_isM, q_isP, q_isR, kv_x0, kv_x1, kv_q0, kv_q1, kv_q2, kv_q7, kv_q9, kv_T, pf_X3_fails, pf_X2_move, q_mv2, show nI 1 = 1 from rfl, show nI 2 = 2 from rfl, show nI 3 = 3 from rfl, nI_0, c1, c2, c3]
        have hY : pf_X3_move p0 p1 th ho = some (0, 3, ho) := by simp [q_rg, q_M, q_P, q_in, q_isM, q_isP, q_isR, kv_x0, kv_x1, kv_q0, kv_q1, kv_q2, kv_q7, kv_q9, kv_T, pf_X3_fails, pf_X3_move, hrf, show nI 1 = 1 from rfl, show nI 2 = 2 from rfl, show nI 3 = 3 from rfl, nI_0, show ¬ ((1 : Int32) ≤ 0) by decide, show ¬ ((2 : Int32) ≤ 0) by decide, show ¬ ((3 : Int32) ≤ 0) by decide, c1, c2, c3]
        rw [hX, hY]
        exact ⟨(by intro c; cases c), (by intro c9 c; cases c; decide), (by intro c; cases c), (by intro q0 q1 q2 q3 q4 c; cases c), (by intro q0 q1 q2 c; cases c), (by intro q0 q1 q2 c; cases c), (by intro q0 q1 q2 _ c; cases c; exact ⟨rfl, ⟨hn, rfl, rfl, hk1, hk2⟩, hM, hF, hP, hR, hO⟩)⟩
      · skip
        have c0 : kv_mv kh p0 p1 = 0 := by have := kv_mv_le kh p0 p1; omega
        have c9 := (kv_mv_0 c0).1
        have hX : pf_X2_move p0 p1 kh = some (.inl (kh p0.toNatClampNeg, upd kh p0.toNatClampNeg p1)) := by simp [q_rg, q_M, q_P, q_in, q_isM, q_isP, q_isR, kv_x0, kv_x1, kv_q0, kv_q1, kv_q2, kv_q7, kv_q9, kv_T, pf_X3_fails, pf_X2_move, q_mv2, show nI 1 = 1 from rfl, show nI 2 = 2 from rfl, show nI 3 = 3 from rfl, nI_0, c1, c2, c3, c0, kv_g8 c9]
        have hY : pf_X3_move p0 p1 th ho = some (ho p0.toNatClampNeg, 0, upd ho p0.toNatClampNeg p1) := by simp [q_rg, q_M, q_P, q_in, q_isM, q_isP, q_isR, kv_x0, kv_x1, kv_q0, kv_q1, kv_q2, kv_q7, kv_q9, kv_T, pf_X3_fails, pf_X3_move, hrf, show nI 1 = 1 from rfl, show nI 2 = 2 from rfl, show nI 3 = 3 from rfl, nI_0, show ¬ ((1 : Int32) ≤ 0) by decide, show ¬ ((2 : Int32) ≤ 0) by decide, show ¬ ((3 : Int32) ≤ 0) by decide, c1, c2, c3, c0, kv_g8 c9]
        rw [hX, hY]
        refine ⟨(by intro c; cases c), (by intro c9 c; cases c), (by intro c; cases c), ?_, (by intro q0 q1 q2 c; cases c), (by intro q0 q1 q2 c; cases c), (by intro q0 q1 q2 c; cases c)⟩
        intro q0 q1 q2 q3 q4 c d
        cases c
        cases d
        refine ⟨rfl, (hM _ (kv_c8 c9)).2.1, ⟨hn, rfl, rfl, hk1, hk2⟩, fun i hi => ?_, hF, hP, hR, hO⟩
        obtain ⟨a1, a2, a3, a4, a5, a6⟩ := hM i hi
        obtain ⟨b1, b2⟩ := kv_mv_b c0
        unfold upd
        by_cases e : i = p0.toNatClampNeg
        · rw [if_pos e, if_pos e]; exact ⟨a1, rfl, a3, a4, b1, b2⟩
        · rw [if_neg e, if_neg e]; exact ⟨a1, a2, a3, a4, a5, a6⟩

set_option maxHeartbeats 1000000 in
theorem ag_lend (kc : Nat → Int32) (kh : Nat → Int32) (fo : Nat → Nat → Int32) (kl : Nat → Int32) (kp : Nat → Int32) (dy : Int32) (n : Nat) (qp : Nat → Int32) (qm : Nat → Int32) (ql : Nat → Int32) (qv : Nat → Int32) (qc : Nat → Int32) (qe : Nat → Int32) (sw : Nat → Int32) (th : Int32) (nw : Int32) (co : Nat → Int32) (ho : Nat → Int32) (ve : Nat → Int32) (la : Nat → Int32) (pr : Nat → Int32) (rg : Int32) (rp : Nat → Int32) (rm : Nat → Int32) (rc : Nat → Int32) (re : Nat → Int32) (ro : Nat → Int32) (rl : Nat → Int32) (mtk : Nat → Int32) (msp : Nat → Int32) (p0 : Int32) (p1 : Int32) (hI : kv_inv kc kh fo kl kp dy n qp qm ql qv qc qe sw nw co ho ve la pr rg rp rm rc re ro rl mtk msp) : (pf_X2_lend n p0 p1 qc qe ≠ none) ∧ (∀ c9, pf_X2_lend n p0 p1 qc qe = some (.inr c9) → c9 = 1 ∨ c9 = 2 ∨ c9 = 3) ∧ (pf_X3_lend rg p0 p1 th rc re ≠ none) ∧ (∀ (v : Int32) (qc' : Nat → Int32) (qe' : Nat → Int32) (b9 : Int32) (th' : Int32) (rc' : Nat → Int32) (re' : Nat → Int32), pf_X2_lend n p0 p1 qc qe = some (.inl (v, qc', qe')) → pf_X3_lend rg p0 p1 th rc re = some (b9, th', rc', re') → th' = 0 ∧ v = b9 ∧ kv_inv kc kh fo kl kp dy n qp qm ql qv qc' qe' sw nw co ho ve la pr rg rp rm rc' re' ro rl mtk msp) ∧ (∀ (b9 : Int32) (th' : Int32) (rc' : Nat → Int32) (re' : Nat → Int32), pf_X2_lend n p0 p1 qc qe = some (.inr 1) → pf_X3_lend rg p0 p1 th rc re = some (b9, th', rc', re') → th' = 1 ∧ kv_inv kc kh fo kl kp dy n qp qm ql qv qc qe sw nw co ho ve la pr rg rp rm rc' re' ro rl mtk msp) ∧ (∀ (b9 : Int32) (th' : Int32) (rc' : Nat → Int32) (re' : Nat → Int32), pf_X2_lend n p0 p1 qc qe = some (.inr 2) → pf_X3_lend rg p0 p1 th rc re = some (b9, th', rc', re') → th' = 2 ∧ kv_inv kc kh fo kl kp dy n qp qm ql qv qc qe sw nw co ho ve la pr rg rp rm rc' re' ro rl mtk msp) ∧ (∀ (b9 : Int32) (th' : Int32) (rc' : Nat → Int32) (re' : Nat → Int32), pf_X2_lend n p0 p1 qc qe = some (.inr 3) → pf_X3_lend rg p0 p1 th rc re = some (b9, th', rc', re') → th' = 3 ∧ kv_inv kc kh fo kl kp dy n qp qm ql qv qc qe sw nw co ho ve la pr rg rp rm rc' re' ro rl mtk msp) := by
  obtain ⟨⟨hn, hrg, hdy, hk1, hk2⟩, hM, hF, hP, hR, hO⟩ := hI
  subst hrg
  subst hdy
  cases c1 : kv_iv p0 0 (nI n - 1)
  · skip
    have hX : pf_X2_lend n p0 p1 qc qe = some (.inr 1) := by simp [q_rg, q_M, q_P, q_in, q_isM, q_isP, q_isR, kv_x0, kv_x1, kv_q0, kv_q1, kv_q2, kv_q7, kv_q9, kv_T, pf_X3_fails, q_rA hn, pf_X2_requireCount, pf_X2_lend, c1]
    have hY : pf_X3_lend (nI n) p0 p1 th rc re = some (0, 1, rc, re) := by simp [q_rg, q_M, q_P, q_in, q_isM, q_isP, q_isR, kv_x0, kv_x1, kv_q0, kv_q1, kv_q2, kv_q7, kv_q9, kv_T, pf_X3_fails, pf_X3_lend, pf_X3_lend_59, c1]
    rw [hX, hY]
    exact ⟨(by intro c; cases c), (by intro c9 c; cases c; decide), (by intro c; cases c), (by intro q0 q1 q2 q3 q4 q5 q6 c; cases c), (by intro q0 q1 q2 q3 _ c; cases c; exact ⟨rfl, ⟨hn, rfl, rfl, hk1, hk2⟩, hM, hF, hP, hR, hO⟩), (by intro q0 q1 q2 q3 c; cases c), (by intro q0 q1 q2 q3 c; cases c)⟩
  · skip
    obtain ⟨r1, r2, r3, r4, r5, r6, r7, r8, r9, r10, r11, r12, r13, r14, r15⟩ := hR _ (kv_cR hn c1)
    cases c2 : kv_iv p1 (-500) 500
    · skip
      have hX : pf_X2_lend n p0 p1 qc qe = some (.inr 2) := by simp [q_rg, q_M, q_P, q_in, q_isM, q_isP, q_isR, kv_x0, kv_x1, kv_q0, kv_q1, kv_q2, kv_q7, kv_q9, kv_T, pf_X3_fails, q_rA hn, pf_X2_requireCount, pf_X2_lend, c1, kv_g12 hn c1, ← r5, ← r6, c2]
      have hY : pf_X3_lend (nI n) p0 p1 th rc re = some (0, 2, rc, re) := by simp [q_rg, q_M, q_P, q_in, q_isM, q_isP, q_isR, kv_x0, kv_x1, kv_q0, kv_q1, kv_q2, kv_q7, kv_q9, kv_T, pf_X3_fails, pf_X3_lend, pf_X3_lend_59, c1, kv_g12 hn c1, ← r5, ← r6, c2]
      rw [hX, hY]
      exact ⟨(by intro c; cases c), (by intro c9 c; cases c; decide), (by intro c; cases c), (by intro q0 q1 q2 q3 q4 q5 q6 c; cases c), (by intro q0 q1 q2 q3 c; cases c), (by intro q0 q1 q2 q3 _ c; cases c; exact ⟨rfl, ⟨hn, rfl, rfl, hk1, hk2⟩, hM, hF, hP, hR, hO⟩), (by intro q0 q1 q2 q3 c; cases c)⟩
    · skip
      by_cases c3 : qc p0.toNatClampNeg < p1
      · skip
        have hX : pf_X2_lend n p0 p1 qc qe = some (.inr 3) := by simp [q_rg, q_M, q_P, q_in, q_isM, q_isP, q_isR, kv_x0, kv_x1, kv_q0, kv_q1, kv_q2, kv_q7, kv_q9, kv_T, pf_X3_fails, q_rA hn, pf_X2_requireCount, pf_X2_lend, c1, kv_g12 hn c1, ← r5, ← r6, c2, c3, Int32.not_le.mpr c3]
        have hY : pf_X3_lend (nI n) p0 p1 th rc re = some (0, 3, rc, re) := by simp [q_rg, q_M, q_P, q_in, q_isM, q_isP, q_isR, kv_x0, kv_x1, kv_q0, kv_q1, kv_q2, kv_q7, kv_q9, kv_T, pf_X3_fails, pf_X3_lend, pf_X3_lend_59, c1, kv_g12 hn c1, ← r5, ← r6, c2, c3, Int32.not_le.mpr c3]
        rw [hX, hY]
        exact ⟨(by intro c; cases c), (by intro c9 c; cases c; decide), (by intro c; cases c), (by intro q0 q1 q2 q3 q4 q5 q6 c; cases c), (by intro q0 q1 q2 q3 c; cases c), (by intro q0 q1 q2 q3 c; cases c), (by intro q0 q1 q2 q3 _ c; cases c; exact ⟨rfl, ⟨hn, rfl, rfl, hk1, hk2⟩, hM, hF, hP, hR, hO⟩)⟩
      · skip
        by_cases c4 : ¬ 0 ≤ qe p0.toNatClampNeg + p1
        · skip
          have hX : pf_X2_lend n p0 p1 qc qe = some (.inr 3) := by simp [q_rg, q_M, q_P, q_in, q_isM, q_isP, q_isR, kv_x0, kv_x1, kv_q0, kv_q1, kv_q2, kv_q7, kv_q9, kv_T, pf_X3_fails, q_rA hn, pf_X2_requireCount, pf_X2_lend, c1, kv_g12 hn c1, ← r5, ← r6, c2, c3, Int32.not_lt.mp c3, c4]
          have hY : pf_X3_lend (nI n) p0 p1 th rc re = some (0, 3, rc, re) := by simp [q_rg, q_M, q_P, q_in, q_isM, q_isP, q_isR, kv_x0, kv_x1, kv_q0, kv_q1, kv_q2, kv_q7, kv_q9, kv_T, pf_X3_fails, pf_X3_lend, pf_X3_lend_59, c1, kv_g12 hn c1, ← r5, ← r6, c2, c3, Int32.not_lt.mp c3, c4]
          rw [hX, hY]
          exact ⟨(by intro c; cases c), (by intro c9 c; cases c; decide), (by intro c; cases c), (by intro q0 q1 q2 q3 q4 q5 q6 c; cases c), (by intro q0 q1 q2 q3 c; cases c), (by intro q0 q1 q2 q3 c; cases c), (by intro q0 q1 q2 q3 _ c; cases c; exact ⟨rfl, ⟨hn, rfl, rfl, hk1, hk2⟩, hM, hF, hP, hR, hO⟩)⟩
        · skip
          have hX : pf_X2_lend n p0 p1 qc qe = some (.inl (upd qe p0.toNatClampNeg (qe p0.toNatClampNeg + p1) p0.toNatClampNeg, upd qc p0.toNatClampNeg (qc p0.toNatClampNeg - p1), upd qe p0.toNatClampNeg (qe p0.toNatClampNeg + p1))) := by simp [q_rg, q_M, q_P, q_in, q_isM, q_isP, q_isR, kv_x0, kv_x1, kv_q0, kv_q1, kv_q2, kv_q7, kv_q9, kv_T, pf_X3_fails, q_rA hn, pf_X2_requireCount, pf_X2_lend, c1, kv_g12 hn c1, ← r5, ← r6, c2, c3, Int32.not_lt.mp c3, c4, Classical.not_not.mp c4]
          have hY : pf_X3_lend (nI n) p0 p1 th rc re = some (upd re p0.toNatClampNeg (qe p0.toNatClampNeg + p1) p0.toNatClampNeg, 0, upd rc p0.toNatClampNeg (qc p0.toNatClampNeg - p1), upd re p0.toNatClampNeg (qe p0.toNatClampNeg + p1)) := by simp [q_rg, q_M, q_P, q_in, q_isM, q_isP, q_isR, kv_x0, kv_x1, kv_q0, kv_q1, kv_q2, kv_q7, kv_q9, kv_T, pf_X3_fails, pf_X3_lend, pf_X3_lend_59, c1, kv_g12 hn c1, ← r5, ← r6, c2, c3, Int32.not_lt.mp c3, c4, Classical.not_not.mp c4]
          rw [hX, hY]
          refine ⟨(by intro c; cases c), (by intro c9 c; cases c), (by intro c; cases c), ?_, (by intro q0 q1 q2 q3 c; cases c), (by intro q0 q1 q2 q3 c; cases c), (by intro q0 q1 q2 q3 c; cases c)⟩
          intro q0 q1 q2 q3 q4 q5 q6 c d
          cases c
          cases d
          have hk := kv_cR hn c1
          obtain ⟨b1, b2⟩ := kv_ivI c2
          obtain ⟨d1, d2, d3, d4, d5⟩ := kv_len r11 r12 r13 r14 r15 b1 (Int32.not_lt.mp c3) (Classical.not_not.mp c4)
          refine ⟨rfl, by unfold upd; rw [if_pos rfl, if_pos rfl], ⟨hn, rfl, rfl, hk1, hk2⟩, hM, hF, hP, fun i hi => ?_, fun i h1 h2 => ?_⟩
          · obtain ⟨a1, a2, a3, a4, a5, a6, a7, a8, a9, a10, a11, a12, a13, a14, a15⟩ := hR i hi
            unfold upd
            by_cases e : i = p0.toNatClampNeg
            · rw [if_pos e, if_pos e, if_pos e, if_pos e]; exact ⟨a1, a2, a3, a4, rfl, rfl, a7, a8, a9, a10, d1, d2, d3, d4, d5⟩
            · rw [if_neg e, if_neg e, if_neg e, if_neg e]; exact ⟨a1, a2, a3, a4, a5, a6, a7, a8, a9, a10, a11, a12, a13, a14, a15⟩
          · unfold upd
            rw [if_neg (by omega)]; exact hO i h1 h2

set_option maxHeartbeats 1000000 in
theorem ag_buy (kc : Nat → Int32) (kh : Nat → Int32) (fo : Nat → Nat → Int32) (kl : Nat → Int32) (kp : Nat → Int32) (dy : Int32) (mo : Int32) (n : Nat) (qp : Nat → Int32) (qm : Nat → Int32) (ql : Nat → Int32) (qv : Nat → Int32) (qc : Nat → Int32) (qe : Nat → Int32) (sw : Nat → Int32) (th : Int32) (nw : Int32) (co : Nat → Int32) (ho : Nat → Int32) (ve : Nat → Int32) (la : Nat → Int32) (pr : Nat → Int32) (rg : Int32) (rp : Nat → Int32) (rm : Nat → Int32) (rc : Nat → Int32) (re : Nat → Int32) (ro : Nat → Int32) (rl : Nat → Int32) (mtk : Nat → Int32) (msp : Nat → Int32) (p0 : Int32) (p1 : Int32) (p2 : Int32) (p3 : Int32) (hI : kv_inv kc kh fo kl kp dy n qp qm ql qv qc qe sw nw co ho ve la pr rg rp rm rc re ro rl mtk msp) : (pf_X2_buy kl dy p0 p1 p2 p3 mo n qp qm ql qv qc qe ≠ none) ∧ (∀ c9, pf_X2_buy kl dy p0 p1 p2 p3 mo n qp qm ql qv qc qe = some (.inr c9) → c9 = 1 ∨ c9 = 2 ∨ c9 = 3) ∧ (pf_X3_buy nw la p0 p1 p2 p3 th rg rp rm rc ro rl ≠ none) ∧ (∀ (v : Int32) (mo' : Int32) (n' : Nat) (qp' : Nat → Int32) (qm' : Nat → Int32) (ql' : Nat → Int32) (qv' : Nat → Int32) (qc' : Nat → Int32) (qe' : Nat → Int32) (b9 : Int32) (th' : Int32) (rg' : Int32) (rp' : Nat → Int32) (rm' : Nat → Int32) (rc' : Nat → Int32) (ro' : Nat → Int32) (rl' : Nat → Int32), pf_X2_buy kl dy p0 p1 p2 p3 mo n qp qm ql qv qc qe = some (.inl (v, mo', n', qp', qm', ql', qv', qc', qe')) → pf_X3_buy nw la p0 p1 p2 p3 th rg rp rm rc ro rl = some (b9, th', rg', rp', rm', rc', ro', rl') → th' = 0 ∧ v = b9 ∧ kv_inv kc kh fo kl kp dy n' qp' qm' ql' qv' qc' qe' sw nw co ho ve la pr rg' rp' rm' rc' re ro' rl' mtk msp ∧ ¬ n' = 0) ∧ (∀ (b9 : Int32) (th' : Int32) (rg' : Int32) (rp' : Nat → Int32) (rm' : Nat → Int32) (rc' : Nat → Int32) (ro' : Nat → Int32) (rl' : Nat → Int32), pf_X2_buy kl dy p0 p1 p2 p3 mo n qp qm ql qv qc qe = some (.inr 1) → pf_X3_buy nw la p0 p1 p2 p3 th rg rp rm rc ro rl = some (b9, th', rg', rp', rm', rc', ro', rl') → th' = 1 ∧ kv_inv kc kh fo kl kp dy n qp qm ql qv qc qe sw nw co ho ve la pr rg' rp' rm' rc' re ro' rl' mtk msp) ∧ (∀ (b9 : Int32) (th' : Int32) (rg' : Int32) (rp' : Nat → Int32) (rm' : Nat → Int32) (rc' : Nat → Int32) (ro' : Nat → Int32) (rl' : Nat → Int32), pf_X2_buy kl dy p0 p1 p2 p3 mo n qp qm ql qv qc qe = some (.inr 2) → pf_X3_buy nw la p0 p1 p2 p3 th rg rp rm rc ro rl = some (b9, th', rg', rp', rm', rc', ro', rl') → th' = 2 ∧ kv_inv kc kh fo kl kp dy n qp qm ql qv qc qe sw nw co ho ve la pr rg' rp' rm' rc' re ro' rl' mtk msp) ∧ (∀ (b9 : Int32) (th' : Int32) (rg' : Int32) (rp' : Nat → Int32) (rm' : Nat → Int32) (rc' : Nat → Int32) (ro' : Nat → Int32) (rl' : Nat → Int32), pf_X2_buy kl dy p0 p1 p2 p3 mo n qp qm ql qv qc qe = some (.inr 3) → pf_X3_buy nw la p0 p1 p2 p3 th rg rp rm rc ro rl = some (b9, th', rg', rp', rm', rc', ro', rl') → th' = 3 ∧ kv_inv kc kh fo kl kp dy n qp qm ql qv qc qe sw nw co ho ve la pr rg' rp' rm' rc' re ro' rl' mtk msp) := by
  obtain ⟨⟨hn, hrg, hdy, hk1, hk2⟩, hM, hF, hP, hR, hO⟩ := hI
  subst hrg
  subst hdy
  cases c1 : kv_iv p0 0 3
  · skip
    have hX : pf_X2_buy kl dy p0 p1 p2 p3 mo n qp qm ql qv qc qe = some (.inr 1) := by simp [q_rg, q_M, q_P, q_in, q_isM, q_isP, q_isR, kv_x0, kv_x1, kv_q0, kv_q1, kv_q2, kv_q7, kv_q9, kv_T, pf_X3_fails, pf_X2_buy, kv_lt12 hn, kv_eq12 hn, q_room hn, c1]
    have hY : pf_X3_buy dy la p0 p1 p2 p3 th (nI n) rp rm rc ro rl = some (0, 1, (nI n), rp, rm, rc, ro, rl) := by simp [q_rg, q_M, q_P, q_in, q_isM, q_isP, q_isR, kv_x0, kv_x1, kv_q0, kv_q1, kv_q2, kv_q7, kv_q9, kv_T, pf_X3_fails, pf_X3_buy, pf_X3_buy_50, kv_lt12 hn, kv_eq12 hn, q_room hn, c1]
    rw [hX, hY]
    exact ⟨(by intro c; cases c), (by intro c9 c; cases c; decide), (by intro c; cases c), (by intro q0 q1 q2 q3 q4 q5 q6 q7 q8 q9 q10 q11 q12 q13 q14 q15 q16 c; cases c), (by intro q0 q1 q2 q3 q4 q5 q6 q7 _ c; cases c; exact ⟨rfl, ⟨hn, rfl, rfl, hk1, hk2⟩, hM, hF, hP, hR, hO⟩), (by intro q0 q1 q2 q3 q4 q5 q6 q7 c; cases c), (by intro q0 q1 q2 q3 q4 q5 q6 q7 c; cases c)⟩
  · skip
    cases c2 : kv_iv p1 0 1
    · skip
      have hX : pf_X2_buy kl dy p0 p1 p2 p3 mo n qp qm ql qv qc qe = some (.inr 2) := by simp [q_rg, q_M, q_P, q_in, q_isM, q_isP, q_isR, kv_x0, kv_x1, kv_q0, kv_q1, kv_q2, kv_q7, kv_q9, kv_T, pf_X3_fails, pf_X2_buy, kv_lt12 hn, kv_eq12 hn, q_room hn, c1, kv_g4 c1, c2]
      have hY : pf_X3_buy dy la p0 p1 p2 p3 th (nI n) rp rm rc ro rl = some (0, 2, (nI n), rp, rm, rc, ro, rl) := by simp [q_rg, q_M, q_P, q_in, q_isM, q_isP, q_isR, kv_x0, kv_x1, kv_q0, kv_q1, kv_q2, kv_q7, kv_q9, kv_T, pf_X3_fails, pf_X3_buy, pf_X3_buy_50, kv_lt12 hn, kv_eq12 hn, q_room hn, c1, kv_g4 c1, c2]
      rw [hX, hY]
      exact ⟨(by intro c; cases c), (by intro c9 c; cases c; decide), (by intro c; cases c), (by intro q0 q1 q2 q3 q4 q5 q6 q7 q8 q9 q10 q11 q12 q13 q14 q15 q16 c; cases c), (by intro q0 q1 q2 q3 q4 q5 q6 q7 c; cases c), (by intro q0 q1 q2 q3 q4 q5 q6 q7 _ c; cases c; exact ⟨rfl, ⟨hn, rfl, rfl, hk1, hk2⟩, hM, hF, hP, hR, hO⟩), (by intro q0 q1 q2 q3 q4 q5 q6 q7 c; cases c)⟩
    · skip
      cases c3 : kv_iv p2 1 500
      · skip
        have hX : pf_X2_buy kl dy p0 p1 p2 p3 mo n qp qm ql qv qc qe = some (.inr 2) := by simp [q_rg, q_M, q_P, q_in, q_isM, q_isP, q_isR, kv_x0, kv_x1, kv_q0, kv_q1, kv_q2, kv_q7, kv_q9, kv_T, pf_X3_fails, pf_X2_buy, kv_lt12 hn, kv_eq12 hn, q_room hn, c1, kv_g4 c1, c2, c3]
        have hY : pf_X3_buy dy la p0 p1 p2 p3 th (nI n) rp rm rc ro rl = some (0, 2, (nI n), rp, rm, rc, ro, rl) := by simp [q_rg, q_M, q_P, q_in, q_isM, q_isP, q_isR, kv_x0, kv_x1, kv_q0, kv_q1, kv_q2, kv_q7, kv_q9, kv_T, pf_X3_fails, pf_X3_buy, pf_X3_buy_50, kv_lt12 hn, kv_eq12 hn, q_room hn, c1, kv_g4 c1, c2, c3]
        rw [hX, hY]
        exact ⟨(by intro c; cases c), (by intro c9 c; cases c; decide), (by intro c; cases c), (by intro q0 q1 q2 q3 q4 q5 q6 q7 q8 q9 q10 q11 q12 q13 q14 q15 q16 c; cases c), (by intro q0 q1 q2 q3 q4 q5 q6 q7 c; cases c), (by intro q0 q1 q2 q3 q4 q5 q6 q7 _ c; cases c; exact ⟨rfl, ⟨hn, rfl, rfl, hk1, hk2⟩, hM, hF, hP, hR, hO⟩), (by intro q0 q1 q2 q3 q4 q5 q6 q7 c; cases c)⟩
      · skip
        cases c4 : kv_iv p3 0 1000
        · skip
          have hX : pf_X2_buy kl dy p0 p1 p2 p3 mo n qp qm ql qv qc qe = some (.inr 2) := by simp [q_rg, q_M, q_P, q_in, q_isM, q_isP, q_isR, kv_x0, kv_x1, kv_q0, kv_q1, kv_q2, kv_q7, kv_q9, kv_T, pf_X3_fails, pf_X2_buy, kv_lt12 hn, kv_eq12 hn, q_room hn, c1, kv_g4 c1, c2, c3, c4]
          have hY : pf_X3_buy dy la p0 p1 p2 p3 th (nI n) rp rm rc ro rl = some (0, 2, (nI n), rp, rm, rc, ro, rl) := by simp [q_rg, q_M, q_P, q_in, q_isM, q_isP, q_isR, kv_x0, kv_x1, kv_q0, kv_q1, kv_q2, kv_q7, kv_q9, kv_T, pf_X3_fails, pf_X3_buy, pf_X3_buy_50, kv_lt12 hn, kv_eq12 hn, q_room hn, c1, kv_g4 c1, c2, c3, c4]
          rw [hX, hY]
          exact ⟨(by intro c; cases c), (by intro c9 c; cases c; decide), (by intro c; cases c), (by intro q0 q1 q2 q3 q4 q5 q6 q7 q8 q9 q10 q11 q12 q13 q14 q15 q16 c; cases c), (by intro q0 q1 q2 q3 q4 q5 q6 q7 c; cases c), (by intro q0 q1 q2 q3 q4 q5 q6 q7 _ c; cases c; exact ⟨rfl, ⟨hn, rfl, rfl, hk1, hk2⟩, hM, hF, hP, hR, hO⟩), (by intro q0 q1 q2 q3 q4 q5 q6 q7 c; cases c)⟩
        · skip
          by_cases c5 : n = 12
          · skip
            have hX : pf_X2_buy kl dy p0 p1 p2 p3 mo n qp qm ql qv qc qe = some (.inr 3) := by simp [q_rg, q_M, q_P, q_in, q_isM, q_isP, q_isR, kv_x0, kv_x1, kv_q0, kv_q1, kv_q2, kv_q7, kv_q9, kv_T, pf_X3_fails, pf_X2_buy, kv_lt12 hn, kv_eq12 hn, q_room hn, c1, kv_g4 c1, c2, c3, c4, show ¬ n < 12 from by omega, eq_true c5]
            have hY : pf_X3_buy dy la p0 p1 p2 p3 th (nI n) rp rm rc ro rl = some (0, 3, (nI n), rp, rm, rc, ro, rl) := by simp [q_rg, q_M, q_P, q_in, q_isM, q_isP, q_isR, kv_x0, kv_x1, kv_q0, kv_q1, kv_q2, kv_q7, kv_q9, kv_T, pf_X3_fails, pf_X3_buy, pf_X3_buy_50, kv_lt12 hn, kv_eq12 hn, q_room hn, c1, kv_g4 c1, c2, c3, c4, show ¬ n < 12 from by omega, eq_true c5]
            rw [hX, hY]
            exact ⟨(by intro c; cases c), (by intro c9 c; cases c; decide), (by intro c; cases c), (by intro q0 q1 q2 q3 q4 q5 q6 q7 q8 q9 q10 q11 q12 q13 q14 q15 q16 c; cases c), (by intro q0 q1 q2 q3 q4 q5 q6 q7 c; cases c), (by intro q0 q1 q2 q3 q4 q5 q6 q7 c; cases c), (by intro q0 q1 q2 q3 q4 q5 q6 q7 _ c; cases c; exact ⟨rfl, ⟨hn, rfl, rfl, hk1, hk2⟩, hM, hF, hP, hR, hO⟩)⟩
          · skip
            have c6 : n < 12 := by omega
            have hX : pf_X2_buy kl dy p0 p1 p2 p3 mo n qp qm ql qv qc qe = some (.inl (nI (n + 1) - 1, mo + 1, n + 1, upd qp n p0, upd qm n p1, upd ql n (dy + p3 - 1), upd qv n (kl p0.toNatClampNeg), upd qc n p2, upd qe n 0)) := by simp [q_rg, q_M, q_P, q_in, q_isM, q_isP, q_isR, kv_x0, kv_x1, kv_q0, kv_q1, kv_q2, kv_q7, kv_q9, kv_T, pf_X3_fails, pf_X2_buy, kv_lt12 hn, kv_eq12 hn, q_room hn, c1, kv_g4 c1, c2, c3, c4, c5, c6, q_add kl p0 p1 p2 (dy + p3 - 1) mo n qp qm ql qv qc qe c6 c1, q_lays la p0 p1 p2 (dy + p3 - 1) n rp rm rc ro rl c6 c1]
            have hY : pf_X3_buy dy la p0 p1 p2 p3 th (nI n) rp rm rc ro rl = some (nI (n + 1) - 1, 0, nI (n + 1), upd rp n p0, upd rm n p1, upd rc n p2, upd ro n (la p0.toNatClampNeg), upd rl n (dy + p3 - 1)) := by simp [q_rg, q_M, q_P, q_in, q_isM, q_isP, q_isR, kv_x0, kv_x1, kv_q0, kv_q1, kv_q2, kv_q7, kv_q9, kv_T, pf_X3_fails, pf_X3_buy, pf_X3_buy_50, kv_lt12 hn, kv_eq12 hn, q_room hn, c1, kv_g4 c1, c2, c3, c4, c5, c6, q_add kl p0 p1 p2 (dy + p3 - 1) mo n qp qm ql qv qc qe c6 c1, q_lays la p0 p1 p2 (dy + p3 - 1) n rp rm rc ro rl c6 c1]
            rw [hX, hY]
            refine ⟨(by intro c; cases c), (by intro c9 c; cases c), (by intro c; cases c), ?_, (by intro q0 q1 q2 q3 q4 q5 q6 q7 c; cases c), (by intro q0 q1 q2 q3 q4 q5 q6 q7 c; cases c), (by intro q0 q1 q2 q3 q4 q5 q6 q7 c; cases c)⟩
            intro q0 q1 q2 q3 q4 q5 q6 q7 q8 q9 q10 q11 q12 q13 q14 q15 q16 c d
            cases c
            cases d
            obtain ⟨b1, b2⟩ := kv_ivI c1
            obtain ⟨b3, b4⟩ := kv_ivI c2
            obtain ⟨b5, b6⟩ := kv_ivI c3
            refine ⟨rfl, rfl, ⟨⟨by omega, rfl, rfl, hk1, hk2⟩, hM, hF, hP, fun i hi => ?_, fun i h1 h2 => hO i (by omega) h2⟩, by omega⟩
            unfold upd
            by_cases e : i = n
            · subst e
              simp only [if_pos]
              refine ⟨trivial, trivial, trivial, (hP _ (kv_c4 c1)).1, trivial, (hO _ (Nat.le_refl _) c6).symm, b1, b2, b3, b4, Int32.le_trans (by decide) b5, Int32.le_refl _, ?_, b6, by decide⟩
              rw [Int32.add_zero]; exact b6
            · simp only [if_neg e]
              exact hR i (by omega)

set_option maxHeartbeats 1000000 in
theorem ag_upgrade (kc : Nat → Int32) (kh : Nat → Int32) (fo : Nat → Nat → Int32) (kl : Nat → Int32) (kp : Nat → Int32) (dy : Int32) (mo : Int32) (n : Nat) (qp : Nat → Int32) (qm : Nat → Int32) (ql : Nat → Int32) (qv : Nat → Int32) (qc : Nat → Int32) (qe : Nat → Int32) (sw : Nat → Int32) (th : Int32) (nw : Int32) (co : Nat → Int32) (ho : Nat → Int32) (ve : Nat → Int32) (la : Nat → Int32) (pr : Nat → Int32) (rg : Int32) (rp : Nat → Int32) (rm : Nat → Int32) (rc : Nat → Int32) (re : Nat → Int32) (ro : Nat → Int32) (rl : Nat → Int32) (mtk : Nat → Int32) (msp : Nat → Int32) (p0 : Int32) (p1 : Int32) (hI : kv_inv kc kh fo kl kp dy n qp qm ql qv qc qe sw nw co ho ve la pr rg rp rm rc re ro rl mtk msp) : (pf_X2_upgrade kl p0 p1 mo n qp qm ql qv qc qe ≠ none) ∧ (∀ c9, pf_X2_upgrade kl p0 p1 mo n qp qm ql qv qc qe = some (.inr c9) → c9 = 1 ∨ c9 = 2 ∨ c9 = 3) ∧ (pf_X3_upgrade la p0 p1 th rg rp rm rc ro rl ≠ none) ∧ (∀ (v : Int32) (mo' : Int32) (n' : Nat) (qp' : Nat → Int32) (qm' : Nat → Int32) (ql' : Nat → Int32) (qv' : Nat → Int32) (qc' : Nat → Int32) (qe' : Nat → Int32) (b9 : Int32) (th' : Int32) (rg' : Int32) (rp' : Nat → Int32) (rm' : Nat → Int32) (rc' : Nat → Int32) (ro' : Nat → Int32) (rl' : Nat → Int32), pf_X2_upgrade kl p0 p1 mo n qp qm ql qv qc qe = some (.inl (v, mo', n', qp', qm', ql', qv', qc', qe')) → pf_X3_upgrade la p0 p1 th rg rp rm rc ro rl = some (b9, th', rg', rp', rm', rc', ro', rl') → th' = 0 ∧ v = b9 ∧ kv_inv kc kh fo kl kp dy n' qp' qm' ql' qv' qc' qe' sw nw co ho ve la pr rg' rp' rm' rc' re ro' rl' mtk msp ∧ ¬ n' = 0) ∧ (∀ (b9 : Int32) (th' : Int32) (rg' : Int32) (rp' : Nat → Int32) (rm' : Nat → Int32) (rc' : Nat → Int32) (ro' : Nat → Int32) (rl' : Nat → Int32), pf_X2_upgrade kl p0 p1 mo n qp qm ql qv qc qe = some (.inr 1) → pf_X3_upgrade la p0 p1 th rg rp rm rc ro rl = some (b9, th', rg', rp', rm', rc', ro', rl') → th' = 1 ∧ kv_inv kc kh fo kl kp dy n qp qm ql qv qc qe sw nw co ho ve la pr rg' rp' rm' rc' re ro' rl' mtk msp) ∧ (∀ (b9 : Int32) (th' : Int32) (rg' : Int32) (rp' : Nat → Int32) (rm' : Nat → Int32) (rc' : Nat → Int32) (ro' : Nat → Int32) (rl' : Nat → Int32), pf_X2_upgrade kl p0 p1 mo n qp qm ql qv qc qe = some (.inr 2) → pf_X3_upgrade la p0 p1 th rg rp rm rc ro rl = some (b9, th', rg', rp', rm', rc', ro', rl') → th' = 2 ∧ kv_inv kc kh fo kl kp dy n qp qm ql qv qc qe sw nw co ho ve la pr rg' rp' rm' rc' re ro' rl' mtk msp) ∧ (∀ (b9 : Int32) (th' : Int32) (rg' : Int32) (rp' : Nat → Int32) (rm' : Nat → Int32) (rc' : Nat → Int32) (ro' : Nat → Int32) (rl' : Nat → Int32), pf_X2_upgrade kl p0 p1 mo n qp qm ql qv qc qe = some (.inr 3) → pf_X3_upgrade la p0 p1 th rg rp rm rc ro rl = some (b9, th', rg', rp', rm', rc', ro', rl') → th' = 3 ∧ kv_inv kc kh fo kl kp dy n qp qm ql qv qc qe sw nw co ho ve la pr rg' rp' rm' rc' re ro' rl' mtk msp) := by
  obtain ⟨⟨hn, hrg, hdy, hk1, hk2⟩, hM, hF, hP, hR, hO⟩ := hI
  subst hrg
  subst hdy
  cases c1 : kv_iv p0 0 (nI n - 1)
  · skip
    have hX : pf_X2_upgrade kl p0 p1 mo n qp qm ql qv qc qe = some (.inr 1) := by simp [q_rg, q_M, q_P, q_in, q_isM, q_isP, q_isR, kv_x0, kv_x1, kv_q0, kv_q1, kv_q2, kv_q7, kv_q9, kv_T, pf_X3_fails, q_rA hn, pf_X2_requireCount, pf_X2_upgrade, kv_lt12 hn, kv_eq12 hn, q_room hn, c1]
    have hY : pf_X3_upgrade la p0 p1 th (nI n) rp rm rc ro rl = some (0, 1, (nI n), rp, rm, rc, ro, rl) := by simp [q_rg, q_M, q_P, q_in, q_isM, q_isP, q_isR, kv_x0, kv_x1, kv_q0, kv_q1, kv_q2, kv_q7, kv_q9, kv_T, pf_X3_fails, pf_X3_upgrade, pf_X3_upgrade_75, kv_lt12 hn, kv_eq12 hn, q_room hn, c1]
    rw [hX, hY]
    exact ⟨(by intro c; cases c), (by intro c9 c; cases c; decide), (by intro c; cases c), (by intro q0 q1 q2 q3 q4 q5 q6 q7 q8 q9 q10 q11 q12 q13 q14 q15 q16 c; cases c), (by intro q0 q1 q2 q3 q4 q5 q6 q7 _ c; cases c; exact ⟨rfl, ⟨hn, rfl, rfl, hk1, hk2⟩, hM, hF, hP, hR, hO⟩), (by intro q0 q1 q2 q3 q4 q5 q6 q7 c; cases c), (by intro q0 q1 q2 q3 q4 q5 q6 q7 c; cases c)⟩
  · skip
    obtain ⟨r1, r2, r3, r4, r5, r6, r7, r8, r9, r10, r11, r12, r13, r14, r15⟩ := hR _ (kv_cR hn c1)
    have hq : kv_iv (qp p0.toNatClampNeg) 0 3 = true := kv_ivT.mpr ⟨Int32.le_iff_toInt_le.mp r7, Int32.le_iff_toInt_le.mp r8⟩
    have hq1 := (hP _ (kv_c4 hq)).1
    cases c2 : kv_iv p1 1 500
    · skip
      have hX : pf_X2_upgrade kl p0 p1 mo n qp qm ql qv qc qe = some (.inr 2) := by simp [q_rg, q_M, q_P, q_in, q_isM, q_isP, q_isR, kv_x0, kv_x1, kv_q0, kv_q1, kv_q2, kv_q7, kv_q9, kv_T, pf_X3_fails, q_rA hn, pf_X2_requireCount, pf_X2_upgrade, kv_lt12 hn, kv_eq12 hn, q_room hn, c1, kv_g12 hn c1, ← r1, ← r2, ← r3, ← r4, ← r5, kv_g4 hq, ← hq1, c2]
      have hY : pf_X3_upgrade la p0 p1 th (nI n) rp rm rc ro rl = some (0, 2, (nI n), rp, rm, rc, ro, rl) := by simp [q_rg, q_M, q_P, q_in, q_isM, q_isP, q_isR, kv_x0, kv_x1, kv_q0, kv_q1, kv_q2, kv_q7, kv_q9, kv_T, pf_X3_fails, pf_X3_upgrade, pf_X3_upgrade_75, kv_lt12 hn, kv_eq12 hn, q_room hn, c1, kv_g12 hn c1, ← r1, ← r2, ← r3, ← r4, ← r5, kv_g4 hq, ← hq1, c2]
      rw [hX, hY]
      exact ⟨(by intro c; cases c), (by intro c9 c; cases c; decide), (by intro c; cases c), (by intro q0 q1 q2 q3 q4 q5 q6 q7 q8 q9 q10 q11 q12 q13 q14 q15 q16 c; cases c), (by intro q0 q1 q2 q3 q4 q5 q6 q7 c; cases c), (by intro q0 q1 q2 q3 q4 q5 q6 q7 _ c; cases c; exact ⟨rfl, ⟨hn, rfl, rfl, hk1, hk2⟩, hM, hF, hP, hR, hO⟩), (by intro q0 q1 q2 q3 q4 q5 q6 q7 c; cases c)⟩
    · skip
      by_cases c3 : qc p0.toNatClampNeg < p1
      · skip
        have hX : pf_X2_upgrade kl p0 p1 mo n qp qm ql qv qc qe = some (.inr 3) := by simp [q_rg, q_M, q_P, q_in, q_isM, q_isP, q_isR, kv_x0, kv_x1, kv_q0, kv_q1, kv_q2, kv_q7, kv_q9, kv_T, pf_X3_fails, q_rA hn, pf_X2_requireCount, pf_X2_upgrade, kv_lt12 hn, kv_eq12 hn, q_room hn, c1, kv_g12 hn c1, ← r1, ← r2, ← r3, ← r4, ← r5, kv_g4 hq, ← hq1, c2, c3, Int32.not_le.mpr c3]
        have hY : pf_X3_upgrade la p0 p1 th (nI n) rp rm rc ro rl = some (0, 3, (nI n), rp, rm, rc, ro, rl) := by simp [q_rg, q_M, q_P, q_in, q_isM, q_isP, q_isR, kv_x0, kv_x1, kv_q0, kv_q1, kv_q2, kv_q7, kv_q9, kv_T, pf_X3_fails, pf_X3_upgrade, pf_X3_upgrade_75, kv_lt12 hn, kv_eq12 hn, q_room hn, c1, kv_g12 hn c1, ← r1, ← r2, ← r3, ← r4, ← r5, kv_g4 hq, ← hq1, c2, c3, Int32.not_le.mpr c3]
        rw [hX, hY]
        exact ⟨(by intro c; cases c), (by intro c9 c; cases c; decide), (by intro c; cases c), (by intro q0 q1 q2 q3 q4 q5 q6 q7 q8 q9 q10 q11 q12 q13 q14 q15 q16 c; cases c), (by intro q0 q1 q2 q3 q4 q5 q6 q7 c; cases c), (by intro q0 q1 q2 q3 q4 q5 q6 q7 c; cases c), (by intro q0 q1 q2 q3 q4 q5 q6 q7 _ c; cases c; exact ⟨rfl, ⟨hn, rfl, rfl, hk1, hk2⟩, hM, hF, hP, hR, hO⟩)⟩
      · skip
        by_cases c4 : qv p0.toNatClampNeg = kl (qp p0.toNatClampNeg).toNatClampNeg
        · skip
          have hX : pf_X2_upgrade kl p0 p1 mo n qp qm ql qv qc qe = some (.inr 3) := by simp [q_rg, q_M, q_P, q_in, q_isM, q_isP, q_isR, kv_x0, kv_x1, kv_q0, kv_q1, kv_q2, kv_q7, kv_q9, kv_T, pf_X3_fails, q_rA hn, pf_X2_requireCount, pf_X2_upgrade, kv_lt12 hn, kv_eq12 hn, q_room hn, c1, kv_g12 hn c1, ← r1, ← r2, ← r3, ← r4, ← r5, kv_g4 hq, ← hq1, c2, c3, Int32.not_lt.mp c3, c4]
          have hY : pf_X3_upgrade la p0 p1 th (nI n) rp rm rc ro rl = some (0, 3, (nI n), rp, rm, rc, ro, rl) := by simp [q_rg, q_M, q_P, q_in, q_isM, q_isP, q_isR, kv_x0, kv_x1, kv_q0, kv_q1, kv_q2, kv_q7, kv_q9, kv_T, pf_X3_fails, pf_X3_upgrade, pf_X3_upgrade_75, kv_lt12 hn, kv_eq12 hn, q_room hn, c1, kv_g12 hn c1, ← r1, ← r2, ← r3, ← r4, ← r5, kv_g4 hq, ← hq1, c2, c3, Int32.not_lt.mp c3, c4]
          rw [hX, hY]
          exact ⟨(by intro c; cases c), (by intro c9 c; cases c; decide), (by intro c; cases c), (by intro q0 q1 q2 q3 q4 q5 q6 q7 q8 q9 q10 q11 q12 q13 q14 q15 q16 c; cases c), (by intro q0 q1 q2 q3 q4 q5 q6 q7 c; cases c), (by intro q0 q1 q2 q3 q4 q5 q6 q7 c; cases c), (by intro q0 q1 q2 q3 q4 q5 q6 q7 _ c; cases c; exact ⟨rfl, ⟨hn, rfl, rfl, hk1, hk2⟩, hM, hF, hP, hR, hO⟩)⟩
        · skip
          by_cases c5 : n = 12
          · skip
            have hX : pf_X2_upgrade kl p0 p1 mo n qp qm ql qv qc qe = some (.inr 3) := by simp [q_rg, q_M, q_P, q_in, q_isM, q_isP, q_isR, kv_x0, kv_x1, kv_q0, kv_q1, kv_q2, kv_q7, kv_q9, kv_T, pf_X3_fails, q_rA hn, pf_X2_requireCount, pf_X2_upgrade, kv_lt12 hn, kv_eq12 hn, q_room hn, c1, kv_g12 hn c1, ← r1, ← r2, ← r3, ← r4, ← r5, kv_g4 hq, ← hq1, c2, c3, Int32.not_lt.mp c3, c4, show ¬ n < 12 from by omega, eq_true c5]
            have hY : pf_X3_upgrade la p0 p1 th (nI n) rp rm rc ro rl = some (0, 3, (nI n), rp, rm, rc, ro, rl) := by simp [q_rg, q_M, q_P, q_in, q_isM, q_isP, q_isR, kv_x0, kv_x1, kv_q0, kv_q1, kv_q2, kv_q7, kv_q9, kv_T, pf_X3_fails, pf_X3_upgrade, pf_X3_upgrade_75, kv_lt12 hn, kv_eq12 hn, q_room hn, c1, kv_g12 hn c1, ← r1, ← r2, ← r3, ← r4, ← r5, kv_g4 hq, ← hq1, c2, c3, Int32.not_lt.mp c3, c4, show ¬ n < 12 from by omega, eq_true c5]
            rw [hX, hY]
            exact ⟨(by intro c; cases c), (by intro c9 c; cases c; decide), (by intro c; cases c), (by intro q0 q1 q2 q3 q4 q5 q6 q7 q8 q9 q10 q11 q12 q13 q14 q15 q16 c; cases c), (by intro q0 q1 q2 q3 q4 q5 q6 q7 c; cases c), (by intro q0 q1 q2 q3 q4 q5 q6 q7 c; cases c), (by intro q0 q1 q2 q3 q4 q5 q6 q7 _ c; cases c; exact ⟨rfl, ⟨hn, rfl, rfl, hk1, hk2⟩, hM, hF, hP, hR, hO⟩)⟩
          · skip
            have c6 : n < 12 := by omega
            have hX : pf_X2_upgrade kl p0 p1 mo n qp qm ql qv qc qe = some (.inl (nI (n + 1) - 1, mo + 1, n + 1, upd qp n (qp p0.toNatClampNeg), upd qm n (qm p0.toNatClampNeg), upd ql n (ql p0.toNatClampNeg), upd qv n (kl (qp p0.toNatClampNeg).toNatClampNeg), upd (upd qc p0.toNatClampNeg (qc p0.toNatClampNeg - p1)) n p1, upd qe n 0)) := by simp [q_rg, q_M, q_P, q_in, q_isM, q_isP, q_isR, kv_x0, kv_x1, kv_q0, kv_q1, kv_q2, kv_q7, kv_q9, kv_T, pf_X3_fails, q_rA hn, pf_X2_requireCount, pf_X2_upgrade, kv_lt12 hn, kv_eq12 hn, q_room hn, c1, kv_g12 hn c1, ← r1, ← r2, ← r3, ← r4, ← r5, kv_g4 hq, ← hq1, c2, c3, Int32.not_lt.mp c3, c4, c5, c6, q_add kl (qp p0.toNatClampNeg) (qm p0.toNatClampNeg) p1 (ql p0.toNatClampNeg) mo n qp qm ql qv (upd qc p0.toNatClampNeg (qc p0.toNatClampNeg - p1)) qe c6 hq, q_lays la (qp p0.toNatClampNeg) (qm p0.toNatClampNeg) p1 (ql p0.toNatClampNeg) n rp rm (upd rc p0.toNatClampNeg (qc p0.toNatClampNeg - p1)) ro rl c6 hq]
            have hY : pf_X3_upgrade la p0 p1 th (nI n) rp rm rc ro rl = some (nI (n + 1) - 1, 0, nI (n + 1), upd rp n (qp p0.toNatClampNeg), upd rm n (qm p0.toNatClampNeg), upd (upd rc p0.toNatClampNeg (qc p0.toNatClampNeg - p1)) n p1, upd ro n (kl (qp p0.toNatClampNeg).toNatClampNeg), upd rl n (ql p0.toNatClampNeg)) := by simp [q_rg, q_M, q_P, q_in, q_isM, q_isP, q_isR, kv_x0, kv_x1, kv_q0, kv_q1, kv_q2, kv_q7, kv_q9, kv_T, pf_X3_fails, pf_X3_upgrade, pf_X3_upgrade_75, kv_lt12 hn, kv_eq12 hn, q_room hn, c1, kv_g12 hn c1, ← r1, ← r2, ← r3, ← r4, ← r5, kv_g4 hq, ← hq1, c2, c3, Int32.not_lt.mp c3, c4, c5, c6, q_add kl (qp p0.toNatClampNeg) (qm p0.toNatClampNeg) p1 (ql p0.toNatClampNeg) mo n qp qm ql qv (upd qc p0.toNatClampNeg (qc p0.toNatClampNeg - p1)) qe c6 hq, q_lays la (qp p0.toNatClampNeg) (qm p0.toNatClampNeg) p1 (ql p0.toNatClampNeg) n rp rm (upd rc p0.toNatClampNeg (qc p0.toNatClampNeg - p1)) ro rl c6 hq]
            rw [hX, hY]
            refine ⟨(by intro c; cases c), (by intro c9 c; cases c), (by intro c; cases c), ?_, (by intro q0 q1 q2 q3 q4 q5 q6 q7 c; cases c), (by intro q0 q1 q2 q3 q4 q5 q6 q7 c; cases c), (by intro q0 q1 q2 q3 q4 q5 q6 q7 c; cases c)⟩
            intro q0 q1 q2 q3 q4 q5 q6 q7 q8 q9 q10 q11 q12 q13 q14 q15 q16 c d
            cases c
            cases d
            have hk := kv_cR hn c1
            obtain ⟨b5, b6⟩ := kv_ivI c2
            have b0 : (0 : Int32) ≤ p1 := Int32.le_trans (by decide) b5
            obtain ⟨d1, d2, d3⟩ := kv_dec r11 r12 r13 r14 r15 b0 (Int32.not_lt.mp c3)
            refine ⟨rfl, rfl, ⟨⟨by omega, rfl, rfl, hk1, hk2⟩, hM, hF, hP, fun i hi => ?_, fun i h1 h2 => hO i (by omega) h2⟩, by omega⟩
            unfold upd
            by_cases e : i = n
            · subst e
              simp only [if_pos]
              refine ⟨trivial, trivial, trivial, trivial, trivial, (hO _ (Nat.le_refl _) c6).symm, r7, r8, r9, r10, b0, Int32.le_refl _, ?_, b6, by decide⟩
              rw [Int32.add_zero]; exact b6
            · obtain ⟨a1, a2, a3, a4, a5, a6, a7, a8, a9, a10, a11, a12, a13, a14, a15⟩ := hR i (by omega)
              simp only [if_neg e]
              by_cases f : i = p0.toNatClampNeg
              · simp only [if_pos f]
                exact ⟨a1, a2, a3, a4, trivial, a6, a7, a8, a9, a10, d1, a12, by rw [f]; exact d2, d3, a15⟩
              · simp only [if_neg f]
                exact ⟨a1, a2, a3, a4, a5, a6, a7, a8, a9, a10, a11, a12, a13, a14, a15⟩
