section KVP1
/-- what a machine weighs for a product -/
def kv_wt (kc : Nat → Int32) (fo : Nat → Nat → Int32) (kp : Nat → Int32) (i j : Nat) : Int32 := if fo i j ≤ 0 then 0 else kc i * kp j
theorem q_wt (kc co : Nat → Int32) (fo : Nat → Nat → Int32) (ve : Nat → Int32) (kp pr : Nat → Int32) (p0 p1 : Int32) (h0 : kv_iv p0 0 7 = true) (h1 : kv_iv p1 0 3 = true) (e1 : fo p0.toNatClampNeg p1.toNatClampNeg = ve (4 * p0.toNatClampNeg + p1.toNatClampNeg)) (e2 : kc p0.toNatClampNeg = co p0.toNatClampNeg) (e3 : kp p1.toNatClampNeg = pr p1.toNatClampNeg) :
    pf_X2_weightOn kc fo kp p0 p1 = some (kv_wt kc fo kp p0.toNatClampNeg p1.toNatClampNeg) ∧ pf_X3_weighs co ve pr p0 p1 = some (kv_wt kc fo kp p0.toNatClampNeg p1.toNatClampNeg) := by
  unfold pf_X2_weightOn pf_X3_weighs kv_wt kv_T
  rw [kv_g8 h0, kv_g4 h1, kv_g32 h0 h1, kv_c32 h0 h1, ← e1]
  by_cases c : fo p0.toNatClampNeg p1.toNatClampNeg ≤ 0
  · simp [c]
  · simp only [if_neg c]
    rw [kv_g8 h0, kv_g4 h1, kv_g8 h0, kv_g4 h1, e2, e3]
    exact ⟨rfl, rfl⟩
end KVP1
set_option maxHeartbeats 1000000 in
theorem ag_setCores (kc : Nat → Int32) (kh : Nat → Int32) (fo : Nat → Nat → Int32) (kl : Nat → Int32) (kp : Nat → Int32) (dy : Int32) (n : Nat) (qp : Nat → Int32) (qm : Nat → Int32) (ql : Nat → Int32) (qv : Nat → Int32) (qc : Nat → Int32) (qe : Nat → Int32) (sw : Nat → Int32) (th : Int32) (nw : Int32) (co : Nat → Int32) (ho : Nat → Int32) (ve : Nat → Int32) (la : Nat → Int32) (pr : Nat → Int32) (rg : Int32) (rp : Nat → Int32) (rm : Nat → Int32) (rc : Nat → Int32) (re : Nat → Int32) (ro : Nat → Int32) (rl : Nat → Int32) (mtk : Nat → Int32) (msp : Nat → Int32) (p0 : Int32) (p1 : Int32) (hI : kv_inv kc kh fo kl kp dy n qp qm ql qv qc qe sw nw co ho ve la pr rg rp rm rc re ro rl mtk msp) : (pf_X2_setCores p0 p1 kc ≠ none) ∧ (∀ c9, pf_X2_setCores p0 p1 kc = some (.inr c9) → c9 = 1 ∨ c9 = 2) ∧ (pf_X3_setCores p0 p1 th co ≠ none) ∧ (∀ (v : Int32) (kc' : Nat → Int32) (b9 : Int32) (th' : Int32) (co' : Nat → Int32), pf_X2_setCores p0 p1 kc = some (.inl (v, kc')) → pf_X3_setCores p0 p1 th co = some (b9, th', co') → th' = 0 ∧ v = b9 ∧ kv_inv kc' kh fo kl kp dy n qp qm ql qv qc qe sw nw co' ho ve la pr rg rp rm rc re ro rl mtk msp) ∧ (∀ (b9 : Int32) (th' : Int32) (co' : Nat → Int32), pf_X2_setCores p0 p1 kc = some (.inr 1) → pf_X3_setCores p0 p1 th co = some (b9, th', co') → th' = 1 ∧ kv_inv kc kh fo kl kp dy n qp qm ql qv qc qe sw nw co' ho ve la pr rg rp rm rc re ro rl mtk msp) ∧ (∀ (b9 : Int32) (th' : Int32) (co' : Nat → Int32), pf_X2_setCores p0 p1 kc = some (.inr 2) → pf_X3_setCores p0 p1 th co = some (b9, th', co') → th' = 2 ∧ kv_inv kc kh fo kl kp dy n qp qm ql qv qc qe sw nw co' ho ve la pr rg rp rm rc re ro rl mtk msp) := by
  obtain ⟨⟨hn, hrg, hdy, hk1, hk2⟩, hM, hF, hP, hR, hO⟩ := hI
  subst hrg
  subst hdy
  cases c1 : kv_iv p0 0 7
  · skip
    have hX : pf_X2_setCores p0 p1 kc = some (.inr 1) := by simp [q_rg, q_M, q_P, q_in, q_isM, q_isP, q_isR, kv_x0, kv_x1, kv_q0, kv_q1, kv_q2, kv_q7, kv_q9, kv_T, pf_X3_fails, pf_X2_setCores, c1]
    have hY : pf_X3_setCores p0 p1 th co = some (0, 1, co) := by simp [q_rg, q_M, q_P, q_in, q_isM, q_isP, q_isR, kv_x0, kv_x1, kv_q0, kv_q1, kv_q2, kv_q7, kv_q9, kv_T, pf_X3_fails, pf_X3_setCores, c1]
    rw [hX, hY]
    exact ⟨(by intro c; cases c), (by intro c9 c; cases c; decide), (by intro c; cases c), (by intro q0 q1 q2 q3 q4 c; cases c), (by intro q0 q1 q2 _ c; cases c; exact ⟨rfl, ⟨hn, rfl, rfl, hk1, hk2⟩, hM, hF, hP, hR, hO⟩), (by intro q0 q1 q2 c; cases c)⟩
  · skip
    cases c2 : kv_iv p1 1 64
    · skip
      have hX : pf_X2_setCores p0 p1 kc = some (.inr 2) := by simp [q_rg, q_M, q_P, q_in, q_isM, q_isP, q_isR, kv_x0, kv_x1, kv_q0, kv_q1, kv_q2, kv_q7, kv_q9, kv_T, pf_X3_fails, pf_X2_setCores, c1, kv_g8 c1, c2]
      have hY : pf_X3_setCores p0 p1 th co = some (0, 2, co) := by simp [q_rg, q_M, q_P, q_in, q_isM, q_isP, q_isR, kv_x0, kv_x1, kv_q0, kv_q1, kv_q2, kv_q7, kv_q9, kv_T, pf_X3_fails, pf_X3_setCores, c1, kv_g8 c1, c2]
      rw [hX, hY]
      exact ⟨(by intro c; cases c), (by intro c9 c; cases c; decide), (by intro c; cases c), (by intro q0 q1 q2 q3 q4 c; cases c), (by intro q0 q1 q2 c; cases c), (by intro q0 q1 q2 _ c; cases c; exact ⟨rfl, ⟨hn, rfl, rfl, hk1, hk2⟩, hM, hF, hP, hR, hO⟩)⟩
    · skip
      have hX : pf_X2_setCores p0 p1 kc = some (.inl (kc p0.toNatClampNeg, upd kc p0.toNatClampNeg p1)) := by simp [q_rg, q_M, q_P, q_in, q_isM, q_isP, q_isR, kv_x0, kv_x1, kv_q0, kv_q1, kv_q2, kv_q7, kv_q9, kv_T, pf_X3_fails, pf_X2_setCores, c1, kv_g8 c1, c2]
      have hY : pf_X3_setCores p0 p1 th co = some (co p0.toNatClampNeg, 0, upd co p0.toNatClampNeg p1) := by simp [q_rg, q_M, q_P, q_in, q_isM, q_isP, q_isR, kv_x0, kv_x1, kv_q0, kv_q1, kv_q2, kv_q7, kv_q9, kv_T, pf_X3_fails, pf_X3_setCores, c1, kv_g8 c1, c2]
      rw [hX, hY]
      refine ⟨(by intro c; cases c), (by intro c9 c; cases c), (by intro c; cases c), ?_, (by intro q0 q1 q2 c; cases c), (by intro q0 q1 q2 c; cases c)⟩
      intro q0 q1 q2 q3 q4 c d
      cases c
      cases d
      refine ⟨rfl, (hM _ (kv_c8 c1)).1, ⟨hn, rfl, rfl, hk1, hk2⟩, fun i hi => ?_, hF, hP, hR, hO⟩
      obtain ⟨a1, a2, a3, a4, a5, a6⟩ := hM i hi
      obtain ⟨b1, b2⟩ := kv_ivI c2
      unfold upd
      by_cases e : i = p0.toNatClampNeg
      · rw [if_pos e, if_pos e]; exact ⟨rfl, a2, b1, b2, a5, a6⟩
      · rw [if_neg e, if_neg e]; exact ⟨a1, a2, a3, a4, a5, a6⟩

set_option maxHeartbeats 1000000 in
theorem ag_setPrice (kc : Nat → Int32) (kh : Nat → Int32) (fo : Nat → Nat → Int32) (kl : Nat → Int32) (kp : Nat → Int32) (dy : Int32) (n : Nat) (qp : Nat → Int32) (qm : Nat → Int32) (ql : Nat → Int32) (qv : Nat → Int32) (qc : Nat → Int32) (qe : Nat → Int32) (sw : Nat → Int32) (th : Int32) (nw : Int32) (co : Nat → Int32) (ho : Nat → Int32) (ve : Nat → Int32) (la : Nat → Int32) (pr : Nat → Int32) (rg : Int32) (rp : Nat → Int32) (rm : Nat → Int32) (rc : Nat → Int32) (re : Nat → Int32) (ro : Nat → Int32) (rl : Nat → Int32) (mtk : Nat → Int32) (msp : Nat → Int32) (p0 : Int32) (p1 : Int32) (hI : kv_inv kc kh fo kl kp dy n qp qm ql qv qc qe sw nw co ho ve la pr rg rp rm rc re ro rl mtk msp) : (pf_X2_setPrice p0 p1 kp ≠ none) ∧ (∀ c9, pf_X2_setPrice p0 p1 kp = some (.inr c9) → c9 = 1 ∨ c9 = 2) ∧ (pf_X3_setPrice p0 p1 th pr ≠ none) ∧ (∀ (v : Int32) (kp' : Nat → Int32) (b9 : Int32) (th' : Int32) (pr' : Nat → Int32), pf_X2_setPrice p0 p1 kp = some (.inl (v, kp')) → pf_X3_setPrice p0 p1 th pr = some (b9, th', pr') → th' = 0 ∧ v = b9 ∧ kv_inv kc kh fo kl kp' dy n qp qm ql qv qc qe sw nw co ho ve la pr' rg rp rm rc re ro rl mtk msp) ∧ (∀ (b9 : Int32) (th' : Int32) (pr' : Nat → Int32), pf_X2_setPrice p0 p1 kp = some (.inr 1) → pf_X3_setPrice p0 p1 th pr = some (b9, th', pr') → th' = 1 ∧ kv_inv kc kh fo kl kp dy n qp qm ql qv qc qe sw nw co ho ve la pr' rg rp rm rc re ro rl mtk msp) ∧ (∀ (b9 : Int32) (th' : Int32) (pr' : Nat → Int32), pf_X2_setPrice p0 p1 kp = some (.inr 2) → pf_X3_setPrice p0 p1 th pr = some (b9, th', pr') → th' = 2 ∧ kv_inv kc kh fo kl kp dy n qp qm ql qv qc qe sw nw co ho ve la pr' rg rp rm rc re ro rl mtk msp) := by
  obtain ⟨⟨hn, hrg, hdy, hk1, hk2⟩, hM, hF, hP, hR, hO⟩ := hI
  subst hrg
  subst hdy
  cases c1 : kv_iv p0 0 3
  · skip
    have hX : pf_X2_setPrice p0 p1 kp = some (.inr 1) := by simp [q_rg, q_M, q_P, q_in, q_isM, q_isP, q_isR, kv_x0, kv_x1, kv_q0, kv_q1, kv_q2, kv_q7, kv_q9, kv_T, pf_X3_fails, pf_X2_setPrice, c1]
    have hY : pf_X3_setPrice p0 p1 th pr = some (0, 1, pr) := by simp [q_rg, q_M, q_P, q_in, q_isM, q_isP, q_isR, kv_x0, kv_x1, kv_q0, kv_q1, kv_q2, kv_q7, kv_q9, kv_T, pf_X3_fails, pf_X3_setPrice, c1]
    rw [hX, hY]
    exact ⟨(by intro c; cases c), (by intro c9 c; cases c; decide), (by intro c; cases c), (by intro q0 q1 q2 q3 q4 c; cases c), (by intro q0 q1 q2 _ c; cases c; exact ⟨rfl, ⟨hn, rfl, rfl, hk1, hk2⟩, hM, hF, hP, hR, hO⟩), (by intro q0 q1 q2 c; cases c)⟩
  · skip
    cases c2 : kv_iv p1 0 1000
    · skip
      have hX : pf_X2_setPrice p0 p1 kp = some (.inr 2) := by simp [q_rg, q_M, q_P, q_in, q_isM, q_isP, q_isR, kv_x0, kv_x1, kv_q0, kv_q1, kv_q2, kv_q7, kv_q9, kv_T, pf_X3_fails, pf_X2_setPrice, c1, kv_g4 c1, c2]
      have hY : pf_X3_setPrice p0 p1 th pr = some (0, 2, pr) := by simp [q_rg, q_M, q_P, q_in, q_isM, q_isP, q_isR, kv_x0, kv_x1, kv_q0, kv_q1, kv_q2, kv_q7, kv_q9, kv_T, pf_X3_fails, pf_X3_setPrice, c1, kv_g4 c1, c2]
      rw [hX, hY]
      exact ⟨(by intro c; cases c), (by intro c9 c; cases c; decide), (by intro c; cases c), (by intro q0 q1 q2 q3 q4 c; cases c), (by intro q0 q1 q2 c; cases c), (by intro q0 q1 q2 _ c; cases c; exact ⟨rfl, ⟨hn, rfl, rfl, hk1, hk2⟩, hM, hF, hP, hR, hO⟩)⟩
    · skip
      have hX : pf_X2_setPrice p0 p1 kp = some (.inl (kp p0.toNatClampNeg, upd kp p0.toNatClampNeg p1)) := by simp [q_rg, q_M, q_P, q_in, q_isM, q_isP, q_isR, kv_x0, kv_x1, kv_q0, kv_q1, kv_q2, kv_q7, kv_q9, kv_T, pf_X3_fails, pf_X2_setPrice, c1, kv_g4 c1, c2]
      have hY : pf_X3_setPrice p0 p1 th pr = some (pr p0.toNatClampNeg, 0, upd pr p0.toNatClampNeg p1) := by simp [q_rg, q_M, q_P, q_in, q_isM, q_isP, q_isR, kv_x0, kv_x1, kv_q0, kv_q1, kv_q2, kv_q7, kv_q9, kv_T, pf_X3_fails, pf_X3_setPrice, c1, kv_g4 c1, c2]
      rw [hX, hY]
      refine ⟨(by intro c; cases c), (by intro c9 c; cases c), (by intro c; cases c), ?_, (by intro q0 q1 q2 c; cases c), (by intro q0 q1 q2 c; cases c)⟩
      intro q0 q1 q2 q3 q4 c d
      cases c
      cases d
      refine ⟨rfl, (hP _ (kv_c4 c1)).2.1, ⟨hn, rfl, rfl, hk1, hk2⟩, hM, hF, fun i hi => ?_, hR, hO⟩
      obtain ⟨a1, a2, a3, a4, a5, a6⟩ := hP i hi
      obtain ⟨b1, b2⟩ := kv_ivI c2
      unfold upd
      by_cases e : i = p0.toNatClampNeg
      · rw [if_pos e, if_pos e]; exact ⟨a1, rfl, a3, a4, b1, b2⟩
      · rw [if_neg e, if_neg e]; exact ⟨a1, a2, a3, a4, a5, a6⟩

set_option maxHeartbeats 1000000 in
theorem ag_find (kc : Nat → Int32) (kh : Nat → Int32) (fo : Nat → Nat → Int32) (kl : Nat → Int32) (kp : Nat → Int32) (dy : Int32) (n : Nat) (qp : Nat → Int32) (qm : Nat → Int32) (ql : Nat → Int32) (qv : Nat → Int32) (qc : Nat → Int32) (qe : Nat → Int32) (sw : Nat → Int32) (th : Int32) (nw : Int32) (co : Nat → Int32) (ho : Nat → Int32) (ve : Nat → Int32) (la : Nat → Int32) (pr : Nat → Int32) (rg : Int32) (rp : Nat → Int32) (rm : Nat → Int32) (rc : Nat → Int32) (re : Nat → Int32) (ro : Nat → Int32) (rl : Nat → Int32) (mtk : Nat → Int32) (msp : Nat → Int32) (p0 : Int32) (p1 : Int32) (p2 : Int32) (hI : kv_inv kc kh fo kl kp dy n qp qm ql qv qc qe sw nw co ho ve la pr rg rp rm rc re ro rl mtk msp) : (pf_X2_find kl p0 p1 p2 fo ≠ none) ∧ (∀ c9, pf_X2_find kl p0 p1 p2 fo = some (.inr c9) → c9 = 1 ∨ c9 = 2) ∧ (pf_X3_find la p0 p1 p2 th ve ≠ none) ∧ (∀ (v : Int32) (fo' : Nat → Nat → Int32) (b9 : Int32) (th' : Int32) (ve' : Nat → Int32), pf_X2_find kl p0 p1 p2 fo = some (.inl (v, fo')) → pf_X3_find la p0 p1 p2 th ve = some (b9, th', ve') → th' = 0 ∧ v = b9 ∧ kv_inv kc kh fo' kl kp dy n qp qm ql qv qc qe sw nw co ho ve' la pr rg rp rm rc re ro rl mtk msp) ∧ (∀ (b9 : Int32) (th' : Int32) (ve' : Nat → Int32), pf_X2_find kl p0 p1 p2 fo = some (.inr 1) → pf_X3_find la p0 p1 p2 th ve = some (b9, th', ve') → th' = 1 ∧ kv_inv kc kh fo kl kp dy n qp qm ql qv qc qe sw nw co ho ve' la pr rg rp rm rc re ro rl mtk msp) ∧ (∀ (b9 : Int32) (th' : Int32) (ve' : Nat → Int32), pf_X2_find kl p0 p1 p2 fo = some (.inr 2) → pf_X3_find la p0 p1 p2 th ve = some (b9, th', ve') → th' = 2 ∧ kv_inv kc kh fo kl kp dy n qp qm ql qv qc qe sw nw co ho ve' la pr rg rp rm rc re ro rl mtk msp) := by
  obtain ⟨⟨hn, hrg, hdy, hk1, hk2⟩, hM, hF, hP, hR, hO⟩ := hI
  subst hrg
  subst hdy
  cases c1 : kv_iv p0 0 7
  · skip
    have hX : pf_X2_find kl p0 p1 p2 fo = some (.inr 1) := by simp [q_rg, q_M, q_P, q_in, q_isM, q_isP, q_isR, kv_x0, kv_x1, kv_q0, kv_q1, kv_q2, kv_q7, kv_q9, kv_T, pf_X3_fails, pf_X2_find, c1]
    have hY : pf_X3_find la p0 p1 p2 th ve = some (0, 1, ve) := by simp [q_rg, q_M, q_P, q_in, q_isM, q_isP, q_isR, kv_x0, kv_x1, kv_q0, kv_q1, kv_q2, kv_q7, kv_q9, kv_T, pf_X3_fails, pf_X3_find, pf_X3_find_19, c1]
    rw [hX, hY]
    exact ⟨(by intro c; cases c), (by intro c9 c; cases c; decide), (by intro c; cases c), (by intro q0 q1 q2 q3 q4 c; cases c), (by intro q0 q1 q2 _ c; cases c; exact ⟨rfl, ⟨hn, rfl, rfl, hk1, hk2⟩, hM, hF, hP, hR, hO⟩), (by intro q0 q1 q2 c; cases c)⟩
  · skip
    cases c2 : kv_iv p1 0 3
    · skip
      have hX : pf_X2_find kl p0 p1 p2 fo = some (.inr 1) := by simp [q_rg, q_M, q_P, q_in, q_isM, q_isP, q_isR, kv_x0, kv_x1, kv_q0, kv_q1, kv_q2, kv_q7, kv_q9, kv_T, pf_X3_fails, pf_X2_find, c1, kv_g8 c1, c2]
      have hY : pf_X3_find la p0 p1 p2 th ve = some (0, 1, ve) := by simp [q_rg, q_M, q_P, q_in, q_isM, q_isP, q_isR, kv_x0, kv_x1, kv_q0, kv_q1, kv_q2, kv_q7, kv_q9, kv_T, pf_X3_fails, pf_X3_find, pf_X3_find_19, c1, kv_g8 c1, c2]
      rw [hX, hY]
      exact ⟨(by intro c; cases c), (by intro c9 c; cases c; decide), (by intro c; cases c), (by intro q0 q1 q2 q3 q4 c; cases c), (by intro q0 q1 q2 _ c; cases c; exact ⟨rfl, ⟨hn, rfl, rfl, hk1, hk2⟩, hM, hF, hP, hR, hO⟩), (by intro q0 q1 q2 c; cases c)⟩
    · skip
      cases c3 : kv_iv p2 0 (kl p1.toNatClampNeg)
      · skip
        have hX : pf_X2_find kl p0 p1 p2 fo = some (.inr 2) := by simp [q_rg, q_M, q_P, q_in, q_isM, q_isP, q_isR, kv_x0, kv_x1, kv_q0, kv_q1, kv_q2, kv_q7, kv_q9, kv_T, pf_X3_fails, pf_X2_find, c1, kv_g8 c1, c2, kv_g4 c2, kv_g32 c1 c2, ← (hP _ (kv_c4 c2)).1, c3]
        have hY : pf_X3_find la p0 p1 p2 th ve = some (0, 2, ve) := by simp [q_rg, q_M, q_P, q_in, q_isM, q_isP, q_isR, kv_x0, kv_x1, kv_q0, kv_q1, kv_q2, kv_q7, kv_q9, kv_T, pf_X3_fails, pf_X3_find, pf_X3_find_19, c1, kv_g8 c1, c2, kv_g4 c2, kv_g32 c1 c2, ← (hP _ (kv_c4 c2)).1, c3]
        rw [hX, hY]
        exact ⟨(by intro c; cases c), (by intro c9 c; cases c; decide), (by intro c; cases c), (by intro q0 q1 q2 q3 q4 c; cases c), (by intro q0 q1 q2 c; cases c), (by intro q0 q1 q2 _ c; cases c; exact ⟨rfl, ⟨hn, rfl, rfl, hk1, hk2⟩, hM, hF, hP, hR, hO⟩)⟩
      · skip
        have hX : pf_X2_find kl p0 p1 p2 fo = some (.inl (fo p0.toNatClampNeg p1.toNatClampNeg, kv_upR fo p0.toNatClampNeg (upd (fo p0.toNatClampNeg) p1.toNatClampNeg p2))) := by simp [q_rg, q_M, q_P, q_in, q_isM, q_isP, q_isR, kv_x0, kv_x1, kv_q0, kv_q1, kv_q2, kv_q7, kv_q9, kv_T, pf_X3_fails, pf_X2_find, c1, kv_g8 c1, c2, kv_g4 c2, kv_g32 c1 c2, ← (hP _ (kv_c4 c2)).1, c3]
        have hY : pf_X3_find la p0 p1 p2 th ve = some (ve (4 * p0 + p1).toNatClampNeg, 0, upd ve (4 * p0 + p1).toNatClampNeg p2) := by simp [q_rg, q_M, q_P, q_in, q_isM, q_isP, q_isR, kv_x0, kv_x1, kv_q0, kv_q1, kv_q2, kv_q7, kv_q9, kv_T, pf_X3_fails, pf_X3_find, pf_X3_find_19, c1, kv_g8 c1, c2, kv_g4 c2, kv_g32 c1 c2, ← (hP _ (kv_c4 c2)).1, c3]
        rw [hX, hY]
        refine ⟨(by intro c; cases c), (by intro c9 c; cases c), (by intro c; cases c), ?_, (by intro q0 q1 q2 c; cases c), (by intro q0 q1 q2 c; cases c)⟩
        intro q0 q1 q2 q3 q4 c d
        cases c
        cases d
        have e9 := kv_c32 c1 c2
        have b8 := kv_c8 c1
        have b4 := kv_c4 c2
        refine ⟨rfl, by rw [e9]; exact (hF _ _ b8 b4).1, ⟨hn, rfl, rfl, hk1, hk2⟩, hM, fun i j hi hj => ?_, hP, hR, hO⟩
        obtain ⟨a1, a2⟩ := hF i j hi hj
        obtain ⟨b1, b2⟩ := kv_ivI c3
        rw [e9]
        unfold kv_upR upd
        by_cases e : i = p0.toNatClampNeg
        · subst e
          rw [if_pos rfl]
          by_cases f : j = p1.toNatClampNeg
          · subst f; rw [if_pos rfl, if_pos rfl]; exact ⟨rfl, b1⟩
          · rw [if_neg f, if_neg (by omega)]; exact ⟨a1, a2⟩
        · rw [if_neg e, if_neg (by omega)]; exact ⟨a1, a2⟩

set_option maxHeartbeats 1000000 in
theorem ag_pass (kc : Nat → Int32) (kh : Nat → Int32) (fo : Nat → Nat → Int32) (kl : Nat → Int32) (kp : Nat → Int32) (dy : Int32) (n : Nat) (qp : Nat → Int32) (qm : Nat → Int32) (ql : Nat → Int32) (qv : Nat → Int32) (qc : Nat → Int32) (qe : Nat → Int32) (sw : Nat → Int32) (th : Int32) (nw : Int32) (co : Nat → Int32) (ho : Nat → Int32) (ve : Nat → Int32) (la : Nat → Int32) (pr : Nat → Int32) (rg : Int32) (rp : Nat → Int32) (rm : Nat → Int32) (rc : Nat → Int32) (re : Nat → Int32) (ro : Nat → Int32) (rl : Nat → Int32) (mtk : Nat → Int32) (msp : Nat → Int32) (p0 : Int32) (hI : kv_inv kc kh fo kl kp dy n qp qm ql qv qc qe sw nw co ho ve la pr rg rp rm rc re ro rl mtk msp) : (pf_X2_pass p0 dy ≠ none) ∧ (∀ c9, pf_X2_pass p0 dy = some (.inr c9) → c9 = 2) ∧ (pf_X3_pass p0 th nw ≠ none) ∧ (∀ (v : Int32) (dy' : Int32) (b9 : Int32) (th' : Int32) (nw' : Int32), pf_X2_pass p0 dy = some (.inl (v, dy')) → pf_X3_pass p0 th nw = some (b9, th', nw') → th' = 0 ∧ v = b9 ∧ kv_inv kc kh fo kl kp dy' n qp qm ql qv qc qe sw nw' co ho ve la pr rg rp rm rc re ro rl mtk msp) ∧ (∀ (b9 : Int32) (th' : Int32) (nw' : Int32), pf_X2_pass p0 dy = some (.inr 2) → pf_X3_pass p0 th nw = some (b9, th', nw') → th' = 1 ∧ kv_inv kc kh fo kl kp dy n qp qm ql qv qc qe sw nw' co ho ve la pr rg rp rm rc re ro rl mtk msp) := by
  obtain ⟨⟨hn, hrg, hdy, hk1, hk2⟩, hM, hF, hP, hR, hO⟩ := hI
  subst hrg
  subst hdy
  cases c1 : kv_iv p0 1 400
  · skip
    have hX : pf_X2_pass p0 dy = some (.inr 2) := by simp [q_rg, q_M, q_P, q_in, q_isM, q_isP, q_isR, kv_x0, kv_x1, kv_q0, kv_q1, kv_q2, kv_q7, kv_q9, kv_T, pf_X3_fails, pf_X2_pass, c1]
    have hY : pf_X3_pass p0 th dy = some (0, 1, dy) := by simp [q_rg, q_M, q_P, q_in, q_isM, q_isP, q_isR, kv_x0, kv_x1, kv_q0, kv_q1, kv_q2, kv_q7, kv_q9, kv_T, pf_X3_fails, pf_X3_pass, c1]
    rw [hX, hY]
    exact ⟨(by intro c; cases c), (by intro c9 c; cases c; decide), (by intro c; cases c), (by intro q0 q1 q2 q3 q4 c; cases c), (by intro q0 q1 q2 _ c; cases c; exact ⟨rfl, ⟨hn, rfl, rfl, hk1, hk2⟩, hM, hF, hP, hR, hO⟩)⟩
  · skip
    have hX : pf_X2_pass p0 dy = some (.inl (dy + p0, dy + p0)) := by simp [q_rg, q_M, q_P, q_in, q_isM, q_isP, q_isR, kv_x0, kv_x1, kv_q0, kv_q1, kv_q2, kv_q7, kv_q9, kv_T, pf_X3_fails, pf_X2_pass, c1]
    have hY : pf_X3_pass p0 th dy = some (dy + p0, 0, dy + p0) := by simp [q_rg, q_M, q_P, q_in, q_isM, q_isP, q_isR, kv_x0, kv_x1, kv_q0, kv_q1, kv_q2, kv_q7, kv_q9, kv_T, pf_X3_fails, pf_X3_pass, c1]
    rw [hX, hY]
    refine ⟨(by intro c; cases c), (by intro c9 c; cases c), (by intro c; cases c), ?_, (by intro q0 q1 q2 c; cases c)⟩
    intro q0 q1 q2 q3 q4 c d
    cases c
    cases d
    exact ⟨rfl, rfl, ⟨hn, rfl, rfl, hk1, hk2⟩, hM, hF, hP, hR, hO⟩

set_option maxHeartbeats 1000000 in
theorem ag_countOf (kc : Nat → Int32) (kh : Nat → Int32) (fo : Nat → Nat → Int32) (kl : Nat → Int32) (kp : Nat → Int32) (dy : Int32) (n : Nat) (qp : Nat → Int32) (qm : Nat → Int32) (ql : Nat → Int32) (qv : Nat → Int32) (qc : Nat → Int32) (qe : Nat → Int32) (sw : Nat → Int32) (th : Int32) (nw : Int32) (co : Nat → Int32) (ho : Nat → Int32) (ve : Nat → Int32) (la : Nat → Int32) (pr : Nat → Int32) (rg : Int32) (rp : Nat → Int32) (rm : Nat → Int32) (rc : Nat → Int32) (re : Nat → Int32) (ro : Nat → Int32) (rl : Nat → Int32) (mtk : Nat → Int32) (msp : Nat → Int32) (p0 : Int32) (hI : kv_inv kc kh fo kl kp dy n qp qm ql qv qc qe sw nw co ho ve la pr rg rp rm rc re ro rl mtk msp) : (pf_X2_countOf n qc p0 ≠ none) ∧ (∀ c9, pf_X2_countOf n qc p0 = some (.inr c9) → c9 = 1) ∧ (pf_X3_countOf rg rc p0 th ≠ none) ∧ (∀ (v : Int32)  (b9 : Int32) (th' : Int32), pf_X2_countOf n qc p0 = some (.inl v) → pf_X3_countOf rg rc p0 th = some (b9, th') → th' = 0 ∧ v = b9 ∧ kv_inv kc kh fo kl kp dy n qp qm ql qv qc qe sw nw co ho ve la pr rg rp rm rc re ro rl mtk msp) ∧ (∀ (b9 : Int32) (th' : Int32), pf_X2_countOf n qc p0 = some (.inr 1) → pf_X3_countOf rg rc p0 th = some (b9, th') → th' = 1 ∧ kv_inv kc kh fo kl kp dy n qp qm ql qv qc qe sw nw co ho ve la pr rg rp rm rc re ro rl mtk msp) := by
  obtain ⟨⟨hn, hrg, hdy, hk1, hk2⟩, hM, hF, hP, hR, hO⟩ := hI
  subst hrg
  subst hdy
  cases c1 : kv_iv p0 0 (nI n - 1)
  · skip
    have hX : pf_X2_countOf n qc p0 = some (.inr 1) := by simp [q_rg, q_M, q_P, q_in, q_isM, q_isP, q_isR, kv_x0, kv_x1, kv_q0, kv_q1, kv_q2, kv_q7, kv_q9, kv_T, pf_X3_fails, q_rA hn, pf_X2_countOf, c1]
    have hY : pf_X3_countOf (nI n) rc p0 th = some (0, 1) := by simp [q_rg, q_M, q_P, q_in, q_isM, q_isP, q_isR, kv_x0, kv_x1, kv_q0, kv_q1, kv_q2, kv_q7, kv_q9, kv_T, pf_X3_fails, pf_X3_countOf, c1]
    rw [hX, hY]
    exact ⟨(by intro c; cases c), (by intro c9 c; cases c; decide), (by intro c; cases c), (by intro q0 q1 q2 c; cases c), (by intro q0 q1 _ c; cases c; exact ⟨rfl, ⟨hn, rfl, rfl, hk1, hk2⟩, hM, hF, hP, hR, hO⟩)⟩
  · skip
    have hX : pf_X2_countOf n qc p0 = some (.inl (qc p0.toNatClampNeg)) := by simp [q_rg, q_M, q_P, q_in, q_isM, q_isP, q_isR, kv_x0, kv_x1, kv_q0, kv_q1, kv_q2, kv_q7, kv_q9, kv_T, pf_X3_fails, q_rA hn, pf_X2_countOf, c1, kv_g12 hn c1]
    have hY : pf_X3_countOf (nI n) rc p0 th = some (rc p0.toNatClampNeg, 0) := by simp [q_rg, q_M, q_P, q_in, q_isM, q_isP, q_isR, kv_x0, kv_x1, kv_q0, kv_q1, kv_q2, kv_q7, kv_q9, kv_T, pf_X3_fails, pf_X3_countOf, c1, kv_g12 hn c1]
    rw [hX, hY]
    refine ⟨(by intro c; cases c), (by intro c9 c; cases c), (by intro c; cases c), ?_, (by intro q0 q1 c; cases c)⟩
    intro q0 q1 q2 c d
    cases c
    cases d
    exact ⟨rfl, (hR _ (kv_cR hn c1)).2.2.2.2.1, ⟨hn, rfl, rfl, hk1, hk2⟩, hM, hF, hP, hR, hO⟩

set_option maxHeartbeats 1000000 in
theorem ag_versionOf (kc : Nat → Int32) (kh : Nat → Int32) (fo : Nat → Nat → Int32) (kl : Nat → Int32) (kp : Nat → Int32) (dy : Int32) (n : Nat) (qp : Nat → Int32) (qm : Nat → Int32) (ql : Nat → Int32) (qv : Nat → Int32) (qc : Nat → Int32) (qe : Nat → Int32) (sw : Nat → Int32) (th : Int32) (nw : Int32) (co : Nat → Int32) (ho : Nat → Int32) (ve : Nat → Int32) (la : Nat → Int32) (pr : Nat → Int32) (rg : Int32) (rp : Nat → Int32) (rm : Nat → Int32) (rc : Nat → Int32) (re : Nat → Int32) (ro : Nat → Int32) (rl : Nat → Int32) (mtk : Nat → Int32) (msp : Nat → Int32) (p0 : Int32) (hI : kv_inv kc kh fo kl kp dy n qp qm ql qv qc qe sw nw co ho ve la pr rg rp rm rc re ro rl mtk msp) : (pf_X2_versionOf n qv p0 ≠ none) ∧ (∀ c9, pf_X2_versionOf n qv p0 = some (.inr c9) → c9 = 1) ∧ (pf_X3_versionOf rg ro p0 th ≠ none) ∧ (∀ (v : Int32)  (b9 : Int32) (th' : Int32), pf_X2_versionOf n qv p0 = some (.inl v) → pf_X3_versionOf rg ro p0 th = some (b9, th') → th' = 0 ∧ v = b9 ∧ kv_inv kc kh fo kl kp dy n qp qm ql qv qc qe sw nw co ho ve la pr rg rp rm rc re ro rl mtk msp) ∧ (∀ (b9 : Int32) (th' : Int32), pf_X2_versionOf n qv p0 = some (.inr 1) → pf_X3_versionOf rg ro p0 th = some (b9, th') → th' = 1 ∧ kv_inv kc kh fo kl kp dy n qp qm ql qv qc qe sw nw co ho ve la pr rg rp rm rc re ro rl mtk msp) := by
  obtain ⟨⟨hn, hrg, hdy, hk1, hk2⟩, hM, hF, hP, hR, hO⟩ := hI
  subst hrg
  subst hdy
  cases c1 : kv_iv p0 0 (nI n - 1)
  · skip
    have hX : pf_X2_versionOf n qv p0 = some (.inr 1) := by simp [q_rg, q_M, q_P, q_in, q_isM, q_isP, q_isR, kv_x0, kv_x1, kv_q0, kv_q1, kv_q2, kv_q7, kv_q9, kv_T, pf_X3_fails, q_rA hn, pf_X2_versionOf, c1]
    have hY : pf_X3_versionOf (nI n) ro p0 th = some (0, 1) := by simp [q_rg, q_M, q_P, q_in, q_isM, q_isP, q_isR, kv_x0, kv_x1, kv_q0, kv_q1, kv_q2, kv_q7, kv_q9, kv_T, pf_X3_fails, pf_X3_versionOf, c1]
    rw [hX, hY]
    exact ⟨(by intro c; cases c), (by intro c9 c; cases c; decide), (by intro c; cases c), (by intro q0 q1 q2 c; cases c), (by intro q0 q1 _ c; cases c; exact ⟨rfl, ⟨hn, rfl, rfl, hk1, hk2⟩, hM, hF, hP, hR, hO⟩)⟩
  · skip
    have hX : pf_X2_versionOf n qv p0 = some (.inl (qv p0.toNatClampNeg)) := by simp [q_rg, q_M, q_P, q_in, q_isM, q_isP, q_isR, kv_x0, kv_x1, kv_q0, kv_q1, kv_q2, kv_q7, kv_q9, kv_T, pf_X3_fails, q_rA hn, pf_X2_versionOf, c1, kv_g12 hn c1]
    have hY : pf_X3_versionOf (nI n) ro p0 th = some (ro p0.toNatClampNeg, 0) := by simp [q_rg, q_M, q_P, q_in, q_isM, q_isP, q_isR, kv_x0, kv_x1, kv_q0, kv_q1, kv_q2, kv_q7, kv_q9, kv_T, pf_X3_fails, pf_X3_versionOf, c1, kv_g12 hn c1]
    rw [hX, hY]
    refine ⟨(by intro c; cases c), (by intro c9 c; cases c), (by intro c; cases c), ?_, (by intro q0 q1 c; cases c)⟩
    intro q0 q1 q2 c d
    cases c
    cases d
    exact ⟨rfl, (hR _ (kv_cR hn c1)).2.2.2.1, ⟨hn, rfl, rfl, hk1, hk2⟩, hM, hF, hP, hR, hO⟩

set_option maxHeartbeats 1000000 in
theorem ag_latest (kc : Nat → Int32) (kh : Nat → Int32) (fo : Nat → Nat → Int32) (kl : Nat → Int32) (kp : Nat → Int32) (dy : Int32) (n : Nat) (qp : Nat → Int32) (qm : Nat → Int32) (ql : Nat → Int32) (qv : Nat → Int32) (qc : Nat → Int32) (qe : Nat → Int32) (sw : Nat → Int32) (th : Int32) (nw : Int32) (co : Nat → Int32) (ho : Nat → Int32) (ve : Nat → Int32) (la : Nat → Int32) (pr : Nat → Int32) (rg : Int32) (rp : Nat → Int32) (rm : Nat → Int32) (rc : Nat → Int32) (re : Nat → Int32) (ro : Nat → Int32) (rl : Nat → Int32) (mtk : Nat → Int32) (msp : Nat → Int32) (p0 : Int32) (hI : kv_inv kc kh fo kl kp dy n qp qm ql qv qc qe sw nw co ho ve la pr rg rp rm rc re ro rl mtk msp) : (pf_X2_latest kl p0 ≠ none) ∧ (∀ c9, pf_X2_latest kl p0 = some (.inr c9) → c9 = 1) ∧ (pf_X3_latest la p0 th ≠ none) ∧ (∀ (v : Int32)  (b9 : Int32) (th' : Int32), pf_X2_latest kl p0 = some (.inl v) → pf_X3_latest la p0 th = some (b9, th') → th' = 0 ∧ v = b9 ∧ kv_inv kc kh fo kl kp dy n qp qm ql qv qc qe sw nw co ho ve la pr rg rp rm rc re ro rl mtk msp) ∧ (∀ (b9 : Int32) (th' : Int32), pf_X2_latest kl p0 = some (.inr 1) → pf_X3_latest la p0 th = some (b9, th') → th' = 1 ∧ kv_inv kc kh fo kl kp dy n qp qm ql qv qc qe sw nw co ho ve la pr rg rp rm rc re ro rl mtk msp) := by
  obtain ⟨⟨hn, hrg, hdy, hk1, hk2⟩, hM, hF, hP, hR, hO⟩ := hI
  subst hrg
  subst hdy
  cases c1 : kv_iv p0 0 3
  · skip
    have hX : pf_X2_latest kl p0 = some (.inr 1) := by simp [q_rg, q_M, q_P, q_in, q_isM, q_isP, q_isR, kv_x0, kv_x1, kv_q0, kv_q1, kv_q2, kv_q7, kv_q9, kv_T, pf_X3_fails, pf_X2_latest, c1]
    have hY : pf_X3_latest la p0 th = some (0, 1) := by simp [q_rg, q_M, q_P, q_in, q_isM, q_isP, q_isR, kv_x0, kv_x1, kv_q0, kv_q1, kv_q2, kv_q7, kv_q9, kv_T, pf_X3_fails, pf_X3_latest, c1]
    rw [hX, hY]
    exact ⟨(by intro c; cases c), (by intro c9 c; cases c; decide), (by intro c; cases c), (by intro q0 q1 q2 c; cases c), (by intro q0 q1 _ c; cases c; exact ⟨rfl, ⟨hn, rfl, rfl, hk1, hk2⟩, hM, hF, hP, hR, hO⟩)⟩
  · skip
    have hX : pf_X2_latest kl p0 = some (.inl (kl p0.toNatClampNeg)) := by simp [q_rg, q_M, q_P, q_in, q_isM, q_isP, q_isR, kv_x0, kv_x1, kv_q0, kv_q1, kv_q2, kv_q7, kv_q9, kv_T, pf_X3_fails, pf_X2_latest, c1, kv_g4 c1]
    have hY : pf_X3_latest la p0 th = some (la p0.toNatClampNeg, 0) := by simp [q_rg, q_M, q_P, q_in, q_isM, q_isP, q_isR, kv_x0, kv_x1, kv_q0, kv_q1, kv_q2, kv_q7, kv_q9, kv_T, pf_X3_fails, pf_X3_latest, c1, kv_g4 c1]
    rw [hX, hY]
    refine ⟨(by intro c; cases c), (by intro c9 c; cases c), (by intro c; cases c), ?_, (by intro q0 q1 c; cases c)⟩
    intro q0 q1 q2 c d
    cases c
    cases d
    exact ⟨rfl, (hP _ (kv_c4 c1)).1, ⟨hn, rfl, rfl, hk1, hk2⟩, hM, hF, hP, hR, hO⟩

set_option maxHeartbeats 1000000 in
theorem ag_hostOf (kc : Nat → Int32) (kh : Nat → Int32) (fo : Nat → Nat → Int32) (kl : Nat → Int32) (kp : Nat → Int32) (dy : Int32) (n : Nat) (qp : Nat → Int32) (qm : Nat → Int32) (ql : Nat → Int32) (qv : Nat → Int32) (qc : Nat → Int32) (qe : Nat → Int32) (sw : Nat → Int32) (th : Int32) (nw : Int32) (co : Nat → Int32) (ho : Nat → Int32) (ve : Nat → Int32) (la : Nat → Int32) (pr : Nat → Int32) (rg : Int32) (rp : Nat → Int32) (rm : Nat → Int32) (rc : Nat → Int32) (re : Nat → Int32) (ro : Nat → Int32) (rl : Nat → Int32) (mtk : Nat → Int32) (msp : Nat → Int32) (p0 : Int32) (hI : kv_inv kc kh fo kl kp dy n qp qm ql qv qc qe sw nw co ho ve la pr rg rp rm rc re ro rl mtk msp) : (pf_X2_hostOf kh p0 ≠ none) ∧ (∀ c9, pf_X2_hostOf kh p0 = some (.inr c9) → c9 = 1) ∧ (pf_X3_hostOf ho p0 th ≠ none) ∧ (∀ (v : Int32)  (b9 : Int32) (th' : Int32), pf_X2_hostOf kh p0 = some (.inl v) → pf_X3_hostOf ho p0 th = some (b9, th') → th' = 0 ∧ v = b9 ∧ kv_inv kc kh fo kl kp dy n qp qm ql qv qc qe sw nw co ho ve la pr rg rp rm rc re ro rl mtk msp) ∧ (∀ (b9 : Int32) (th' : Int32), pf_X2_hostOf kh p0 = some (.inr 1) → pf_X3_hostOf ho p0 th = some (b9, th') → th' = 1 ∧ kv_inv kc kh fo kl kp dy n qp qm ql qv qc qe sw nw co ho ve la pr rg rp rm rc re ro rl mtk msp) := by
  obtain ⟨⟨hn, hrg, hdy, hk1, hk2⟩, hM, hF, hP, hR, hO⟩ := hI
  subst hrg
  subst hdy
  cases c1 : kv_iv p0 0 7
  · skip
    have hX : pf_X2_hostOf kh p0 = some (.inr 1) := by simp [q_rg, q_M, q_P, q_in, q_isM, q_isP, q_isR, kv_x0, kv_x1, kv_q0, kv_q1, kv_q2, kv_q7, kv_q9, kv_T, pf_X3_fails, pf_X2_hostOf, c1]
    have hY : pf_X3_hostOf ho p0 th = some (0, 1) := by simp [q_rg, q_M, q_P, q_in, q_isM, q_isP, q_isR, kv_x0, kv_x1, kv_q0, kv_q1, kv_q2, kv_q7, kv_q9, kv_T, pf_X3_fails, pf_X3_hostOf, c1]
    rw [hX, hY]
    exact ⟨(by intro c; cases c), (by intro c9 c; cases c; decide), (by intro c; cases c), (by intro q0 q1 q2 c; cases c), (by intro q0 q1 _ c; cases c; exact ⟨rfl, ⟨hn, rfl, rfl, hk1, hk2⟩, hM, hF, hP, hR, hO⟩)⟩
  · skip
    have hX : pf_X2_hostOf kh p0 = some (.inl (kh p0.toNatClampNeg)) := by simp [q_rg, q_M, q_P, q_in, q_isM, q_isP, q_isR, kv_x0, kv_x1, kv_q0, kv_q1, kv_q2, kv_q7, kv_q9, kv_T, pf_X3_fails, pf_X2_hostOf, c1, kv_g8 c1]
    have hY : pf_X3_hostOf ho p0 th = some (ho p0.toNatClampNeg, 0) := by simp [q_rg, q_M, q_P, q_in, q_isM, q_isP, q_isR, kv_x0, kv_x1, kv_q0, kv_q1, kv_q2, kv_q7, kv_q9, kv_T, pf_X3_fails, pf_X3_hostOf, c1, kv_g8 c1]
    rw [hX, hY]
    refine ⟨(by intro c; cases c), (by intro c9 c; cases c), (by intro c; cases c), ?_, (by intro q0 q1 c; cases c)⟩
    intro q0 q1 q2 c d
    cases c
    cases d
    exact ⟨rfl, (hM _ (kv_c8 c1)).2.1, ⟨hn, rfl, rfl, hk1, hk2⟩, hM, hF, hP, hR, hO⟩

set_option maxHeartbeats 1000000 in
theorem ag_weight (kc : Nat → Int32) (kh : Nat → Int32) (fo : Nat → Nat → Int32) (kl : Nat → Int32) (kp : Nat → Int32) (dy : Int32) (n : Nat) (qp : Nat → Int32) (qm : Nat → Int32) (ql : Nat → Int32) (qv : Nat → Int32) (qc : Nat → Int32) (qe : Nat → Int32) (sw : Nat → Int32) (th : Int32) (nw : Int32) (co : Nat → Int32) (ho : Nat → Int32) (ve : Nat → Int32) (la : Nat → Int32) (pr : Nat → Int32) (rg : Int32) (rp : Nat → Int32) (rm : Nat → Int32) (rc : Nat → Int32) (re : Nat → Int32) (ro : Nat → Int32) (rl : Nat → Int32) (mtk : Nat → Int32) (msp : Nat → Int32) (p0 : Int32) (p1 : Int32) (hI : kv_inv kc kh fo kl kp dy n qp qm ql qv qc qe sw nw co ho ve la pr rg rp rm rc re ro rl mtk msp) : (pf_X2_weight kc fo kp p0 p1 ≠ none) ∧ (∀ c9, pf_X2_weight kc fo kp p0 p1 = some (.inr c9) → c9 = 1) ∧ (pf_X3_weight co ve pr p0 p1 th ≠ none) ∧ (∀ (v : Int32)  (b9 : Int32) (th' : Int32), pf_X2_weight kc fo kp p0 p1 = some (.inl v) → pf_X3_weight co ve pr p0 p1 th = some (b9, th') → th' = 0 ∧ v = b9 ∧ kv_inv kc kh fo kl kp dy n qp qm ql qv qc qe sw nw co ho ve la pr rg rp rm rc re ro rl mtk msp) ∧ (∀ (b9 : Int32) (th' : Int32), pf_X2_weight kc fo kp p0 p1 = some (.inr 1) → pf_X3_weight co ve pr p0 p1 th = some (b9, th') → th' = 1 ∧ kv_inv kc kh fo kl kp dy n qp qm ql qv qc qe sw nw co ho ve la pr rg rp rm rc re ro rl mtk msp) := by
  obtain ⟨⟨hn, hrg, hdy, hk1, hk2⟩, hM, hF, hP, hR, hO⟩ := hI
  subst hrg
  subst hdy
  cases c1 : kv_iv p0 0 7
  · skip
    have hX : pf_X2_weight kc fo kp p0 p1 = some (.inr 1) := by simp [q_rg, q_M, q_P, q_in, q_isM, q_isP, q_isR, kv_x0, kv_x1, kv_q0, kv_q1, kv_q2, kv_q7, kv_q9, kv_T, pf_X3_fails, pf_X2_weight, c1]
    have hY : pf_X3_weight co ve pr p0 p1 th = some (0, 1) := by simp [q_rg, q_M, q_P, q_in, q_isM, q_isP, q_isR, kv_x0, kv_x1, kv_q0, kv_q1, kv_q2, kv_q7, kv_q9, kv_T, pf_X3_fails, pf_X3_weight, pf_X3_weight_28, c1]
    rw [hX, hY]
    exact ⟨(by intro c; cases c), (by intro c9 c; cases c; decide), (by intro c; cases c), (by intro q0 q1 q2 c; cases c), (by intro q0 q1 _ c; cases c; exact ⟨rfl, ⟨hn, rfl, rfl, hk1, hk2⟩, hM, hF, hP, hR, hO⟩)⟩
  · skip
    cases c2 : kv_iv p1 0 3
    · skip
      have hX : pf_X2_weight kc fo kp p0 p1 = some (.inr 1) := by simp [q_rg, q_M, q_P, q_in, q_isM, q_isP, q_isR, kv_x0, kv_x1, kv_q0, kv_q1, kv_q2, kv_q7, kv_q9, kv_T, pf_X3_fails, pf_X2_weight, c1, kv_g8 c1, c2]
      have hY : pf_X3_weight co ve pr p0 p1 th = some (0, 1) := by simp [q_rg, q_M, q_P, q_in, q_isM, q_isP, q_isR, kv_x0, kv_x1, kv_q0, kv_q1, kv_q2, kv_q7, kv_q9, kv_T, pf_X3_fails, pf_X3_weight, pf_X3_weight_28, c1, kv_g8 c1, c2]
      rw [hX, hY]
      exact ⟨(by intro c; cases c), (by intro c9 c; cases c; decide), (by intro c; cases c), (by intro q0 q1 q2 c; cases c), (by intro q0 q1 _ c; cases c; exact ⟨rfl, ⟨hn, rfl, rfl, hk1, hk2⟩, hM, hF, hP, hR, hO⟩)⟩
    · skip
      have e9 := kv_c32 c1 c2
      have b8 := kv_c8 c1
      have b4 := kv_c4 c2
      have hW := q_wt kc co fo ve kp pr p0 p1 c1 c2 (hF _ _ b8 b4).1 (hM _ b8).1 (hP _ b4).2.1
      have hX : pf_X2_weight kc fo kp p0 p1 = some (.inl (kv_wt kc fo kp p0.toNatClampNeg p1.toNatClampNeg)) := by simp [q_rg, q_M, q_P, q_in, q_isM, q_isP, q_isR, kv_x0, kv_x1, kv_q0, kv_q1, kv_q2, kv_q7, kv_q9, kv_T, pf_X3_fails, pf_X2_weight, c1, kv_g8 c1, c2, kv_g4 c2, kv_g32 c1 c2, hW.1, hW.2]
      have hY : pf_X3_weight co ve pr p0 p1 th = some (kv_wt kc fo kp p0.toNatClampNeg p1.toNatClampNeg, 0) := by simp [q_rg, q_M, q_P, q_in, q_isM, q_isP, q_isR, kv_x0, kv_x1, kv_q0, kv_q1, kv_q2, kv_q7, kv_q9, kv_T, pf_X3_fails, pf_X3_weight, pf_X3_weight_28, c1, kv_g8 c1, c2, kv_g4 c2, kv_g32 c1 c2, hW.1, hW.2]
      rw [hX, hY]
      refine ⟨(by intro c; cases c), (by intro c9 c; cases c), (by intro c; cases c), ?_, (by intro q0 q1 c; cases c)⟩
      intro q0 q1 q2 c d
      cases c
      cases d
      exact ⟨rfl, rfl, ⟨hn, rfl, rfl, hk1, hk2⟩, hM, hF, hP, hR, hO⟩

theorem ag_today (kc : Nat → Int32) (kh : Nat → Int32) (fo : Nat → Nat → Int32) (kl : Nat → Int32) (kp : Nat → Int32) (dy : Int32) (n : Nat) (qp : Nat → Int32) (qm : Nat → Int32) (ql : Nat → Int32) (qv : Nat → Int32) (qc : Nat → Int32) (qe : Nat → Int32) (sw : Nat → Int32) (th : Int32) (nw : Int32) (co : Nat → Int32) (ho : Nat → Int32) (ve : Nat → Int32) (la : Nat → Int32) (pr : Nat → Int32) (rg : Int32) (rp : Nat → Int32) (rm : Nat → Int32) (rc : Nat → Int32) (re : Nat → Int32) (ro : Nat → Int32) (rl : Nat → Int32) (mtk : Nat → Int32) (msp : Nat → Int32) (hI : kv_inv kc kh fo kl kp dy n qp qm ql qv qc qe sw nw co ho ve la pr rg rp rm rc re ro rl mtk msp) : (pf_X2_today dy ≠ none) ∧ (pf_X3_today nw th ≠ none) ∧ ∀ (v b9 th' : Int32), pf_X2_today dy = some v → pf_X3_today nw th = some (b9, th') → v = b9 := by
  obtain ⟨⟨hn, hrg, hdy, hk1, hk2⟩, hM, hF, hP, hR, hO⟩ := hI
  refine ⟨nofun, nofun, fun v b9 th' e1 e2 => ?_⟩
  cases e1
  cases e2
  exact hdy

theorem ag_rights (kc : Nat → Int32) (kh : Nat → Int32) (fo : Nat → Nat → Int32) (kl : Nat → Int32) (kp : Nat → Int32) (dy : Int32) (n : Nat) (qp : Nat → Int32) (qm : Nat → Int32) (ql : Nat → Int32) (qv : Nat → Int32) (qc : Nat → Int32) (qe : Nat → Int32) (sw : Nat → Int32) (th : Int32) (nw : Int32) (co : Nat → Int32) (ho : Nat → Int32) (ve : Nat → Int32) (la : Nat → Int32) (pr : Nat → Int32) (rg : Int32) (rp : Nat → Int32) (rm : Nat → Int32) (rc : Nat → Int32) (re : Nat → Int32) (ro : Nat → Int32) (rl : Nat → Int32) (mtk : Nat → Int32) (msp : Nat → Int32) (hI : kv_inv kc kh fo kl kp dy n qp qm ql qv qc qe sw nw co ho ve la pr rg rp rm rc re ro rl mtk msp) : (pf_X2_rights n ≠ none) ∧ (pf_X3_rights rg th ≠ none) ∧ ∀ (v b9 th' : Int32), pf_X2_rights n = some v → pf_X3_rights rg th = some (b9, th') → v = b9 := by
  obtain ⟨⟨hn, hrg, hdy, hk1, hk2⟩, hM, hF, hP, hR, hO⟩ := hI
  refine ⟨nofun, nofun, fun v b9 th' e1 e2 => ?_⟩
  cases e1
  cases e2
  exact hrg.symm
