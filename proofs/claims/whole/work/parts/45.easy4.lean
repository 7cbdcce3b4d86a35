section KVP4
theorem kv_leN {n i : Nat} (hn : n ≤ 12) (hi : i ≤ 12) : nI n ≤ nI i ↔ n ≤ i := nI_leI (by omega) (by omega)
theorem kv_lN {i n : Nat} (hn : n ≤ 12) (h : i < n) {α : Type} (k : Option α) : kv_L (nI i) n k = k := kv_lT hn (by rw [nI_toInt (by omega)]; omega) (by rw [nI_toInt (by omega)]; omega)
theorem q_rel (dy : Int32) (n : Nat) (qp ql rp rl : Nat → Int32) (p0 : Int32) (kl' la : Nat → Int32) (old : Int32) (th : Int32) (hn : n ≤ 12) (c1 : kv_iv p0 0 3 = true) (hla : la p0.toNatClampNeg = old) (hR : ∀ i, i < n → rp i = qp i ∧ rl i = ql i) : ∀ (k f g i : Nat) (cnt : Int32) (qv ro : Nat → Int32), i + k = n → k < f → k < g → (∀ j, j < n → qv j = ro j) → ∃ (cnt' : Int32) (qv' ro' : Nat → Int32), pf_X2_release_41 dy n qp ql p0 f old cnt (nI i) kl' qv = some (.inl (cnt', kl', qv')) ∧ pf_X3_release_39 dy (nI n) rp rl p0 g cnt (nI i) th la ro = some (cnt', th, upd la p0.toNatClampNeg (old + 1), ro') ∧ ∀ j, j < n → qv' j = ro' j := by
  intro k
  induction k with
  | zero =>
    intro f g i cnt qv ro hi hf hg hv
    obtain ⟨f, rfl⟩ : ∃ z, f = z + 1 := ⟨f - 1, by omega⟩
    obtain ⟨g, rfl⟩ : ∃ z, g = z + 1 := ⟨g - 1, by omega⟩
    refine ⟨cnt, qv, ro, ?_, ?_, hv⟩
    · show pf_X2_release_41b dy n qp ql p0 (pf_X2_release_41 dy n qp ql p0 f) old cnt (nI i) kl' qv = _
      unfold pf_X2_release_41b
      rw [if_pos ((kv_leN hn (by omega)).mpr (by omega))]
    · show pf_X3_release_39b dy (nI n) rp rl p0 (pf_X3_release_39 dy (nI n) rp rl p0 g) cnt (nI i) th la ro = _
      unfold pf_X3_release_39b kv_T
      rw [if_pos ((kv_leN hn (by omega)).mpr (by omega))]
      simp only [kv_g4 c1, hla]
  | succ k ih =>
    intro f g i cnt qv ro hi hf hg hv
    obtain ⟨f, rfl⟩ : ∃ z, f = z + 1 := ⟨f - 1, by omega⟩
    obtain ⟨g, rfl⟩ : ∃ z, g = z + 1 := ⟨g - 1, by omega⟩
    have hin : i < n := by omega
    have hc : (nI i).toNatClampNeg = i := nI_clamp (by omega)
    obtain ⟨r1, r2⟩ := hR i hin
    have hvi := hv i hin
    have e1 : pf_X2_release_41 dy n qp ql p0 (f + 1) old cnt (nI i) kl' qv = pf_X2_release_41b dy n qp ql p0 (pf_X2_release_41 dy n qp ql p0 f) old cnt (nI i) kl' qv := rfl
    have e2 : pf_X3_release_39 dy (nI n) rp rl p0 (g + 1) cnt (nI i) th la ro = pf_X3_release_39b dy (nI n) rp rl p0 (pf_X3_release_39 dy (nI n) rp rl p0 g) cnt (nI i) th la ro := rfl
    rw [e1, e2]
    unfold pf_X2_release_41b pf_X3_release_39b kv_T
    rw [if_neg (fun c => by have := (kv_leN hn (by omega)).mp c; omega), if_neg (fun c => by have := (kv_leN hn (by omega)).mp c; omega)]
    have hg12 : ∀ z : Option (Int32 × Int32 × (Nat → Int32) × (Nat → Int32)), kv_G (nI i) 12 z = z := fun z => kv_gN (by omega) (by omega) z
    simp only [kv_lN hn hin, hg12, kv_g4 c1, hc, nI_1, r1, r2, hla, ← hvi]
    obtain ⟨a, b, d, h1, h2, h3⟩ := ih f g (i + 1) cnt qv ro (by omega) (by omega) (by omega) hv
    obtain ⟨a', b', d', h1', h2', h3'⟩ := ih f g (i + 1) (cnt + 1) (upd qv i (old + 1)) (upd ro i (old + 1)) (by omega) (by omega) (by omega) (fun j hj => by unfold upd; by_cases e : j = i; rw [if_pos e, if_pos e]; rw [if_neg e, if_neg e]; exact hv j hj)
    by_cases s1 : qp i = p0
    · by_cases s2 : qv i = old
      · by_cases s3 : ql i < dy
        · simp only [if_pos s1, if_pos s2, if_pos s3]
          exact ⟨a, b, d, h1, h2, h3⟩
        · simp only [if_pos s1, if_pos s2, if_neg s3]
          rw [s2]
          exact ⟨a', b', d', h1', h2', h3'⟩
      · by_cases s3 : ql i < dy
        · simp only [if_pos s1, if_neg s2, if_pos s3]
          exact ⟨a, b, d, h1, h2, h3⟩
        · simp only [if_pos s1, if_neg s2, if_neg s3]
          exact ⟨a, b, d, h1, h2, h3⟩
    · simp only [if_neg s1]
      exact ⟨a, b, d, h1, h2, h3⟩
theorem kv_n9 {x : Int32} (h : x ≤ 9) (h2 : ¬ x = 9) : x < 9 := by
  rw [Int32.lt_iff_toInt_lt, kv_i9]
  rw [Int32.le_iff_toInt_le, kv_i9] at h
  have : x.toInt ≠ 9 := fun c => h2 (Int32.toInt_inj.mp (c.trans kv_i9.symm))
  omega
theorem kv_up9 {x : Int32} (h : 1 ≤ x) (h2 : x < 9) : 1 ≤ x + 1 ∧ x + 1 ≤ 9 := by
  simp only [Int32.lt_iff_toInt_lt, Int32.le_iff_toInt_le, kv_i9, kv_i1] at *
  rw [kv_addI (by rw [kv_i1]; omega) (by rw [kv_i1]; omega), kv_i1]
  omega
end KVP4
set_option maxHeartbeats 1000000 in
theorem ag_release (kc : Nat → Int32) (kh : Nat → Int32) (fo : Nat → Nat → Int32) (kl : Nat → Int32) (kp : Nat → Int32) (dy : Int32) (n : Nat) (qp : Nat → Int32) (qm : Nat → Int32) (ql : Nat → Int32) (qv : Nat → Int32) (qc : Nat → Int32) (qe : Nat → Int32) (sw : Nat → Int32) (th : Int32) (nw : Int32) (co : Nat → Int32) (ho : Nat → Int32) (ve : Nat → Int32) (la : Nat → Int32) (pr : Nat → Int32) (rg : Int32) (rp : Nat → Int32) (rm : Nat → Int32) (rc : Nat → Int32) (re : Nat → Int32) (ro : Nat → Int32) (rl : Nat → Int32) (mtk : Nat → Int32) (msp : Nat → Int32) (p0 : Int32) (hI : kv_inv kc kh fo kl kp dy n qp qm ql qv qc qe sw nw co ho ve la pr rg rp rm rc re ro rl mtk msp) : (pf_X2_release dy n qp ql p0 kl qv ≠ none) ∧ (∀ c9, pf_X2_release dy n qp ql p0 kl qv = some (.inr c9) → c9 = 1 ∨ c9 = 3) ∧ (pf_X3_release nw rg rp rl p0 th la ro ≠ none) ∧ (∀ (v : Int32) (kl' : Nat → Int32) (qv' : Nat → Int32) (b9 : Int32) (th' : Int32) (la' : Nat → Int32) (ro' : Nat → Int32), pf_X2_release dy n qp ql p0 kl qv = some (.inl (v, kl', qv')) → pf_X3_release nw rg rp rl p0 th la ro = some (b9, th', la', ro') → th' = 0 ∧ v = b9 ∧ kv_inv kc kh fo kl' kp dy n qp qm ql qv' qc qe sw nw co ho ve la' pr rg rp rm rc re ro' rl mtk msp) ∧ (∀ (b9 : Int32) (th' : Int32) (la' : Nat → Int32) (ro' : Nat → Int32), pf_X2_release dy n qp ql p0 kl qv = some (.inr 1) → pf_X3_release nw rg rp rl p0 th la ro = some (b9, th', la', ro') → th' = 1 ∧ kv_inv kc kh fo kl kp dy n qp qm ql qv qc qe sw nw co ho ve la' pr rg rp rm rc re ro' rl mtk msp) ∧ (∀ (b9 : Int32) (th' : Int32) (la' : Nat → Int32) (ro' : Nat → Int32), pf_X2_release dy n qp ql p0 kl qv = some (.inr 3) → pf_X3_release nw rg rp rl p0 th la ro = some (b9, th', la', ro') → th' = 2 ∧ kv_inv kc kh fo kl kp dy n qp qm ql qv qc qe sw nw co ho ve la' pr rg rp rm rc re ro' rl mtk msp) := by
  obtain ⟨⟨hn, hrg, hdy, hk1, hk2⟩, hM, hF, hP, hR, hO⟩ := hI
  subst hrg
  subst hdy
  cases c1 : kv_iv p0 0 3
  · skip
    have hX : pf_X2_release dy n qp ql p0 kl qv = some (.inr 1) := by simp [q_rg, q_M, q_P, q_in, q_isM, q_isP, q_isR, kv_x0, kv_x1, kv_q0, kv_q1, kv_q2, kv_q7, kv_q9, kv_T, pf_X3_fails, pf_X2_release, c1]
    have hY : pf_X3_release dy (nI n) rp rl p0 th la ro = some (0, 1, la, ro) := by simp [q_rg, q_M, q_P, q_in, q_isM, q_isP, q_isR, kv_x0, kv_x1, kv_q0, kv_q1, kv_q2, kv_q7, kv_q9, kv_T, pf_X3_fails, pf_X3_release, c1]
    rw [hX, hY]
    exact ⟨(by intro c; cases c), (by intro c9 c; cases c; decide), (by intro c; cases c), (by intro q0 q1 q2 q3 q4 q5 q6 c; cases c), (by intro q0 q1 q2 q3 _ c; cases c; exact ⟨rfl, ⟨hn, rfl, rfl, hk1, hk2⟩, hM, hF, hP, hR, hO⟩), (by intro q0 q1 q2 q3 c; cases c)⟩
  · skip
    obtain ⟨s1, s2, s3, s4, s5, s6⟩ := hP _ (kv_c4 c1)
    by_cases c2 : kl p0.toNatClampNeg = 9
    · skip
      have hX : pf_X2_release dy n qp ql p0 kl qv = some (.inr 3) := by simp [q_rg, q_M, q_P, q_in, q_isM, q_isP, q_isR, kv_x0, kv_x1, kv_q0, kv_q1, kv_q2, kv_q7, kv_q9, kv_T, pf_X3_fails, pf_X2_release, c1, kv_g4 c1, ← s1, show ¬ kl p0.toNatClampNeg < 9 from by rw [c2]; decide, c2]
      have hY : pf_X3_release dy (nI n) rp rl p0 th la ro = some (0, 2, la, ro) := by simp [q_rg, q_M, q_P, q_in, q_isM, q_isP, q_isR, kv_x0, kv_x1, kv_q0, kv_q1, kv_q2, kv_q7, kv_q9, kv_T, pf_X3_fails, pf_X3_release, c1, kv_g4 c1, ← s1, show ¬ kl p0.toNatClampNeg < 9 from by rw [c2]; decide, c2]
      rw [hX, hY]
      exact ⟨(by intro c; cases c), (by intro c9 c; cases c; decide), (by intro c; cases c), (by intro q0 q1 q2 q3 q4 q5 q6 c; cases c), (by intro q0 q1 q2 q3 c; cases c), (by intro q0 q1 q2 q3 _ c; cases c; exact ⟨rfl, ⟨hn, rfl, rfl, hk1, hk2⟩, hM, hF, hP, hR, hO⟩)⟩
    · skip
      have c3 : kl p0.toNatClampNeg < 9 := kv_n9 s4 c2
      obtain ⟨cnt, qv9, ro9, g1, g2, g3⟩ := q_rel dy n qp ql rp rl p0 (upd kl p0.toNatClampNeg (kl p0.toNatClampNeg + 1)) la (kl p0.toNatClampNeg) 0 hn c1 s1.symm (fun i hi => ⟨(hR i hi).1.symm, (hR i hi).2.2.1.symm⟩) n kv_F kv_F 0 0 qv ro (by omega) (by have := kv_FS; omega) (by have := kv_FS; omega) (fun j hj => (hR j hj).2.2.2.1)
      rw [nI_0] at g1 g2
      have hX : pf_X2_release dy n qp ql p0 kl qv = some (.inl (cnt, upd kl p0.toNatClampNeg (kl p0.toNatClampNeg + 1), qv9)) := by simp [q_rg, q_M, q_P, q_in, q_isM, q_isP, q_isR, kv_x0, kv_x1, kv_q0, kv_q1, kv_q2, kv_q7, kv_q9, kv_T, pf_X3_fails, pf_X2_release, c1, kv_g4 c1, ← s1, c2, c3, g1, g2]
      have hY : pf_X3_release dy (nI n) rp rl p0 th la ro = some (cnt, 0, upd la p0.toNatClampNeg (kl p0.toNatClampNeg + 1), ro9) := by simp [q_rg, q_M, q_P, q_in, q_isM, q_isP, q_isR, kv_x0, kv_x1, kv_q0, kv_q1, kv_q2, kv_q7, kv_q9, kv_T, pf_X3_fails, pf_X3_release, c1, kv_g4 c1, ← s1, c2, c3, g1, g2]
      rw [hX, hY]
      refine ⟨(by intro c; cases c), (by intro c9 c; cases c), (by intro c; cases c), ?_, (by intro q0 q1 q2 q3 c; cases c), (by intro q0 q1 q2 q3 c; cases c)⟩
      intro q0 q1 q2 q3 q4 q5 q6 c d
      cases c
      cases d
      refine ⟨rfl, rfl, ⟨hn, rfl, rfl, hk1, hk2⟩, hM, hF, fun j hj => ?_, fun i hi => ?_, hO⟩
      · obtain ⟨a1, a2, a3, a4, a5, a6⟩ := hP j hj
        obtain ⟨b1, b2⟩ := kv_up9 s3 c3
        unfold upd
        by_cases e : j = p0.toNatClampNeg
        · rw [if_pos e, if_pos e]; exact ⟨rfl, a2, b1, b2, a5, a6⟩
        · rw [if_neg e, if_neg e]; exact ⟨a1, a2, a3, a4, a5, a6⟩
      · obtain ⟨a1, a2, a3, a4, a5⟩ := hR i hi
        exact ⟨a1, a2, a3, g3 i hi, a5⟩
