set_option maxHeartbeats 1000000 in
theorem ag_covers (kc : Nat → Int32) (kh : Nat → Int32) (fo : Nat → Nat → Int32) (kl : Nat → Int32) (kp : Nat → Int32) (dy : Int32) (n : Nat) (qp : Nat → Int32) (qm : Nat → Int32) (ql : Nat → Int32) (qv : Nat → Int32) (qc : Nat → Int32) (qe : Nat → Int32) (sw : Nat → Int32) (th : Int32) (nw : Int32) (co : Nat → Int32) (ho : Nat → Int32) (ve : Nat → Int32) (la : Nat → Int32) (pr : Nat → Int32) (rg : Int32) (rp : Nat → Int32) (rm : Nat → Int32) (rc : Nat → Int32) (re : Nat → Int32) (ro : Nat → Int32) (rl : Nat → Int32) (mtk : Nat → Int32) (msp : Nat → Int32) (p0 : Int32) (p1 : Int32) (hI : kv_inv kc kh fo kl kp dy n qp qm ql qv qc qe sw nw co ho ve la pr rg rp rm rc re ro rl mtk msp) : (pf_X2_covers kh fo n qp qm qv p0 p1 ≠ none) ∧ (∀ c9, pf_X2_covers kh fo n qp qm qv p0 p1 = some (.inr c9) → c9 = 1) ∧ (pf_X3_covers ho ve rg rp rm ro p0 p1 th ≠ none) ∧ (∀ (v : Int32)  (b9 : Int32) (th' : Int32), pf_X2_covers kh fo n qp qm qv p0 p1 = some (.inl v) → pf_X3_covers ho ve rg rp rm ro p0 p1 th = some (b9, th') → th' = 0 ∧ v = b9 ∧ kv_inv kc kh fo kl kp dy n qp qm ql qv qc qe sw nw co ho ve la pr rg rp rm rc re ro rl mtk msp) ∧ (∀ (b9 : Int32) (th' : Int32), pf_X2_covers kh fo n qp qm qv p0 p1 = some (.inr 1) → pf_X3_covers ho ve rg rp rm ro p0 p1 th = some (b9, th') → th' = 1 ∧ kv_inv kc kh fo kl kp dy n qp qm ql qv qc qe sw nw co ho ve la pr rg rp rm rc re ro rl mtk msp) := by
  obtain ⟨⟨hn, hrg, hdy, hk1, hk2⟩, hM, hF, hP, hR, hO⟩ := hI
  subst hrg
  subst hdy
  cases c1 : kv_iv p0 0 (nI n - 1)
  · skip
    have hX : pf_X2_covers kh fo n qp qm qv p0 p1 = some (.inr 1) := by simp [q_rg, q_M, q_P, q_in, q_isM, q_isP, q_isR, kv_x0, kv_x1, kv_q0, kv_q1, kv_q2, kv_q7, kv_q9, kv_T, pf_X3_fails, q_rA hn, pf_X2_covers, c1]
    have hY : pf_X3_covers ho ve (nI n) rp rm ro p0 p1 th = some (0, 1) := by simp [q_rg, q_M, q_P, q_in, q_isM, q_isP, q_isR, kv_x0, kv_x1, kv_q0, kv_q1, kv_q2, kv_q7, kv_q9, kv_T, pf_X3_fails, pf_X3_covers, pf_X3_covers_29, c1]
    rw [hX, hY]
    exact ⟨(by intro c; cases c), (by intro c9 c; cases c; decide), (by intro c; cases c), (by intro q0 q1 q2 c; cases c), (by intro q0 q1 _ c; cases c; exact ⟨rfl, ⟨hn, rfl, rfl, hk1, hk2⟩, hM, hF, hP, hR, hO⟩)⟩
  · skip
    cases c2 : kv_iv p1 0 7
    · skip
      have hX : pf_X2_covers kh fo n qp qm qv p0 p1 = some (.inr 1) := by simp [q_rg, q_M, q_P, q_in, q_isM, q_isP, q_isR, kv_x0, kv_x1, kv_q0, kv_q1, kv_q2, kv_q7, kv_q9, kv_T, pf_X3_fails, q_rA hn, pf_X2_covers, c1, kv_g12 hn c1, c2]
      have hY : pf_X3_covers ho ve (nI n) rp rm ro p0 p1 th = some (0, 1) := by simp [q_rg, q_M, q_P, q_in, q_isM, q_isP, q_isR, kv_x0, kv_x1, kv_q0, kv_q1, kv_q2, kv_q7, kv_q9, kv_T, pf_X3_fails, pf_X3_covers, pf_X3_covers_29, c1, kv_g12 hn c1, c2]
      rw [hX, hY]
      exact ⟨(by intro c; cases c), (by intro c9 c; cases c; decide), (by intro c; cases c), (by intro q0 q1 q2 c; cases c), (by intro q0 q1 _ c; cases c; exact ⟨rfl, ⟨hn, rfl, rfl, hk1, hk2⟩, hM, hF, hP, hR, hO⟩)⟩
    · skip
      obtain ⟨r1, r2, r3, r4, r5, r6, r7, r8, r9, r10, r11, r12, r13, r14, r15⟩ := hR _ (kv_cR hn c1)
      have hq : kv_iv (qp p0.toNatClampNeg) 0 3 = true := kv_ivT.mpr ⟨Int32.le_iff_toInt_le.mp r7, Int32.le_iff_toInt_le.mp r8⟩
      have hx2 := q_cv2 fo n qp qm qv kh p0.toNatClampNeg p1 hq
      have hx3 := q_cv3 fo qp qm qv kh p0.toNatClampNeg ho ve rp rm ro p0 p1 rfl (fun k => kv_g12 hn c1 k) hq r1.symm r2.symm r4.symm (fun i hi => ((hM i hi).2.1).symm) (fun i hi => ((hF i _ hi (kv_c4 hq)).1).symm)
      have hX : pf_X2_covers kh fo n qp qm qv p0 p1 = some (.inl (nI (kv_cv fo qp qm qv kh p0.toNatClampNeg p1))) := by simp [q_rg, q_M, q_P, q_in, q_isM, q_isP, q_isR, kv_x0, kv_x1, kv_q0, kv_q1, kv_q2, kv_q7, kv_q9, kv_T, pf_X3_fails, q_rA hn, pf_X2_covers, c1, kv_g12 hn c1, c2, hx2, hx3]
      have hY : pf_X3_covers ho ve (nI n) rp rm ro p0 p1 th = some (nI (kv_cv fo qp qm qv kh p0.toNatClampNeg p1), 0) := by simp [q_rg, q_M, q_P, q_in, q_isM, q_isP, q_isR, kv_x0, kv_x1, kv_q0, kv_q1, kv_q2, kv_q7, kv_q9, kv_T, pf_X3_fails, pf_X3_covers, pf_X3_covers_29, c1, kv_g12 hn c1, c2, hx2, hx3]
      rw [hX, hY]
      refine ⟨(by intro c; cases c), (by intro c9 c; cases c), (by intro c; cases c), ?_, (by intro q0 q1 c; cases c)⟩
      intro q0 q1 q2 c d
      cases c
      cases d
      exact ⟨rfl, rfl, ⟨hn, rfl, rfl, hk1, hk2⟩, hM, hF, hP, hR, hO⟩
