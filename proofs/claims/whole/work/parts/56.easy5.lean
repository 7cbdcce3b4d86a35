section KVP15
theorem kv_q6_s {A B C E F G β : Type} (a : A) (b : B) (c : C) (d : E) (e : F) (f : G) (k : A → B → C → E → F → G → Option β) : kv_q6 (some (a, b, c, d, e, f)) k = k a b c d e f := rfl
theorem kv_x0_s {β : Type} (k : Option (β ⊕ Nat)) : kv_x0 (some (.inl ())) k = k := rfl
theorem kv_q1_s {A β : Type} (a : A) (k : A → Option β) : kv_q1 (some a) k = k a := rfl
theorem kv_reach_c {use use' : Nat → Bool} {t c : Nat → Nat → Nat} {cnt cnt' : Nat → Nat} : ∀ (k i : Nat) (R : Nat → Prop), (∀ j, i ≤ j → j < i + k → use j = use' j ∧ cnt j = cnt' j) → kv_reach use t c cnt i k R = kv_reach use' t c cnt' i k R := by
  intro k
  induction k with
  | zero => intro i R _; rfl
  | succ k ih =>
    intro i R h
    obtain ⟨h1, h2⟩ := h i (Nat.le_refl i) (by omega)
    rw [kv_reach_S, kv_reach_S, h1, h2]
    exact ih (i + 1) _ (fun j a b => h j (by omega) (by omega))
theorem q_re (kc : Nat → Int32) (fo : Nat → Nat → Int32) (qp qm qv qc hs rc : Nat → Int32) (p0 : Int32) (n : Nat) (h : ∀ i, i < n → qc i = rc i) : ∀ (k i : Nat) (R : Nat → Prop), i + k = n → kv_reach (kv_use qp qc p0 (-1)) (kv_tk kc qm) (fun r j => kv_cv fo qp qm qv hs r (nI j)) (fun r => (qc r).toInt.toNat) i k R = kv_reach (kv_use qp rc p0 (-1)) (kv_tk kc qm) (fun r j => kv_cv fo qp qm qv hs r (nI j)) (fun r => (rc r).toInt.toNat) i k R := by
  intro k i R hk
  refine kv_reach_c k i R (fun j h1 h2 => ?_)
  have e := h j (by omega)
  exact ⟨by unfold kv_use; rw [e], congrArg (fun x : Int32 => x.toInt.toNat) e⟩
theorem kv_same_pick {W d : Nat → Nat} {h : Nat} {ok ok2 : Nat → Bool} {L L2 : Nat} {P P2 : Nat → Prop} (h5 : ∀ S, S < 256 → (ok S = true ↔ P S)) (w4 : ∀ S, S < 256 → (ok2 S = true ↔ P2 S)) (hre : P = P2) (g6 : L = kv_pick W d ok 0 256 h) (w5 : L2 = kv_pick W d ok2 0 256 h) : L = L2 := by
  rw [g6, w5]
  refine kv_pick_c 256 0 _ (fun j _ hj => ?_)
  rw [Bool.eq_iff_iff, h5 j (by omega), w4 j (by omega), hre]
/-- what the keeper finds and what the reference finds are one -/
theorem q_both {kc : Nat → Int32} {fo : Nat → Nat → Int32} {kp qp qm qv qc hs : Nat → Int32} {co ho ve pr rp rm rc ro : Nat → Int32} (p0 : Int32) (n : Nat) (hn : n ≤ 12) (h1 : kv_iv p0 0 3 = true) (hM : ∀ i, i < 8 → co i = kc i ∧ ho i = hs i ∧ 1 ≤ kc i ∧ kc i ≤ 64) (hV : ∀ i j, i < 8 → j < 4 → ve (4 * i + j) = fo i j) (hP : pr p0.toNatClampNeg = kp p0.toNatClampNeg ∧ 0 ≤ kp p0.toNatClampNeg ∧ kp p0.toNatClampNeg ≤ 1000) (hR : ∀ i, i < n → qp i = rp i ∧ qm i = rm i ∧ qv i = ro i ∧ qc i = rc i ∧ 0 ≤ qp i ∧ qp i ≤ 3 ∧ 0 ≤ qc i ∧ qc i ≤ 500) (mt mv sw : Nat → Int32) (hv : Int32) (tk : Nat → Int32) (h2 : sw 0 = 0) (cn tn mtk msp : Nat → Int32) (ba : Int32) (h3 : mtk 0 = 0) (h4 : msp 0 = 0) :
    ∃ (L w : Nat) (mt' mv' sw' : Nat → Int32) (hv' : Int32) (tk' cn' tn' mtk' msp' : Nat → Int32), pf_X2_leastUncovered kc fo kp n qp qm qv qc p0 hs mt mv sw hv tk = some (nI L, mt', mv', sw', hv', tk') ∧ pf_X0_weightOfSet sw' (nI L) = some (nI w) ∧ pf_X3_least co ho ve pr (nI n) rp rm rc ro p0 cn tn mtk msp ba = some (nI w, cn', tn', mtk', msp', nI L) ∧ sw' 0 = 0 ∧ mtk' 0 = 0 ∧ msp' 0 = 0 := by
  have hqp : ∀ i, i < n → kv_iv (qp i) 0 3 = true := fun i hi => by
    obtain ⟨_, _, _, _, a, b, _⟩ := hR i hi
    exact kv_ivT.mpr ⟨Int32.le_iff_toInt_le.mp a, Int32.le_iff_toInt_le.mp b⟩
  have hqc : ∀ i, i < n → 0 ≤ qc i ∧ qc i ≤ 500 := fun i hi => (hR i hi).2.2.2.2.2.2
  have hrc : ∀ i, i < n → 0 ≤ rc i ∧ rc i ≤ 500 := fun i hi => by rw [← (hR i hi).2.2.2.1]; exact hqc i hi
  have hsm : ∀ r, r < n → kv_same kc fo qp qm qv hs r co ho ve rp rm ro := fun r hr => ⟨by omega, hqp r hr, (hR r hr).1.symm, (hR r hr).2.1.symm, (hR r hr).2.2.1.symm, fun i hi => ⟨(hM i hi).2.1, (hM i hi).1, (hM i hi).2.2⟩, hV⟩
  obtain ⟨L, ok, mt', mv', sw', tk', g1, g2, g3, g4, g5, g6⟩ := q_class (hs := hs) p0 n hn hqp hqc h1 (fun i hi => (hM i hi).2.2) hP.2 mt mv sw hv tk h2
  obtain ⟨L2, ok2, cn', tn', mtk', msp', w1, w2, w3, w4, w5⟩ := q_model pr rc p0 n hn hsm hrc h1 (fun i hi => ⟨(hM i hi).1, (hM i hi).2.2⟩) hV hP.1 hP.2 cn tn mtk msp ba h3 h4
  have hLL := kv_same_pick g5 w4 (q_re kc fo qp qm qv qc hs rc p0 n (fun i hi => (hR i hi).2.2.2.1) n 0 (fun S => S = 0) (by omega)) g6 w5
  rw [← hLL] at w1
  exact ⟨L, _, mt', mv', sw', _, tk', cn', tn', mtk', msp', g1, g4, w1, g2, w2, w3⟩
end KVP15
set_option maxHeartbeats 1000000 in
theorem ag_gap (kc : Nat → Int32) (kh : Nat → Int32) (fo : Nat → Nat → Int32) (kl : Nat → Int32) (kp : Nat → Int32) (dy : Int32) (n : Nat) (qp : Nat → Int32) (qm : Nat → Int32) (ql : Nat → Int32) (qv : Nat → Int32) (qc : Nat → Int32) (qe : Nat → Int32) (mt : Nat → Int32) (mv : Nat → Int32) (sw : Nat → Int32) (hv : Int32) (tk : Nat → Int32) (th : Int32) (nw : Int32) (co : Nat → Int32) (ho : Nat → Int32) (ve : Nat → Int32) (la : Nat → Int32) (pr : Nat → Int32) (rg : Int32) (rp : Nat → Int32) (rm : Nat → Int32) (rc : Nat → Int32) (re : Nat → Int32) (ro : Nat → Int32) (rl : Nat → Int32) (mcn : Nat → Int32) (mtn : Nat → Int32) (mtk : Nat → Int32) (msp : Nat → Int32) (ba : Int32) (p0 : Int32) (hI : kv_inv kc kh fo kl kp dy n qp qm ql qv qc qe sw nw co ho ve la pr rg rp rm rc re ro rl mtk msp) : (pf_X2_gap kc kh fo kp n qp qm qv qc p0 mt mv sw hv tk ≠ none) ∧ (∀ c9, pf_X2_gap kc kh fo kp n qp qm qv qc p0 mt mv sw hv tk = some (.inr c9) → c9 = 1) ∧ (pf_X3_gap co ho ve pr rg rp rm rc ro p0 th mcn mtn mtk msp ba ≠ none) ∧ (∀ (v : Int32) (mt' : Nat → Int32) (mv' : Nat → Int32) (sw' : Nat → Int32) (hv' : Int32) (tk' : Nat → Int32) (b9 : Int32) (th' : Int32) (mcn' : Nat → Int32) (mtn' : Nat → Int32) (mtk' : Nat → Int32) (msp' : Nat → Int32) (ba' : Int32), pf_X2_gap kc kh fo kp n qp qm qv qc p0 mt mv sw hv tk = some (.inl (v, mt', mv', sw', hv', tk')) → pf_X3_gap co ho ve pr rg rp rm rc ro p0 th mcn mtn mtk msp ba = some (b9, th', mcn', mtn', mtk', msp', ba') → th' = 0 ∧ v = b9 ∧ kv_inv kc kh fo kl kp dy n qp qm ql qv qc qe sw' nw co ho ve la pr rg rp rm rc re ro rl mtk' msp') ∧ (∀ (b9 : Int32) (th' : Int32) (mcn' : Nat → Int32) (mtn' : Nat → Int32) (mtk' : Nat → Int32) (msp' : Nat → Int32) (ba' : Int32), pf_X2_gap kc kh fo kp n qp qm qv qc p0 mt mv sw hv tk = some (.inr 1) → pf_X3_gap co ho ve pr rg rp rm rc ro p0 th mcn mtn mtk msp ba = some (b9, th', mcn', mtn', mtk', msp', ba') → th' = 1 ∧ kv_inv kc kh fo kl kp dy n qp qm ql qv qc qe sw nw co ho ve la pr rg rp rm rc re ro rl mtk' msp') := by
  obtain ⟨⟨hn, hrg, hdy, hk1, hk2⟩, hM, hF, hP, hR, hO⟩ := hI
  subst hrg
  subst hdy
  cases c1 : kv_iv p0 0 3
  · skip
    have hX : pf_X2_gap kc kh fo kp n qp qm qv qc p0 mt mv sw hv tk = some (.inr 1) := by simp [q_rg, q_M, q_P, q_in, q_isM, q_isP, q_isR, kv_x0, kv_x1, kv_q0, kv_q1, kv_q2, kv_q7, kv_q9, kv_T, pf_X3_fails, pf_X2_gap, c1]
    have hY : pf_X3_gap co ho ve pr (nI n) rp rm rc ro p0 th mcn mtn mtk msp ba = some (0, 1, mcn, mtn, mtk, msp, ba) := by simp [q_rg, q_M, q_P, q_in, q_isM, q_isP, q_isR, kv_x0, kv_x1, kv_q0, kv_q1, kv_q2, kv_q7, kv_q9, kv_T, pf_X3_fails, pf_X3_gap, c1]
    rw [hX, hY]
    exact ⟨(by intro c; cases c), (by intro c9 c; cases c; decide), (by intro c; cases c), (by intro q0 q1 q2 q3 q4 q5 q6 q7 q8 q9 q10 q11 q12 c; cases c), (by intro q0 q1 q2 q3 q4 q5 q6 _ c; cases c; exact ⟨rfl, ⟨hn, rfl, rfl, hk1, hk2⟩, hM, hF, hP, hR, hO⟩)⟩
  · skip
    obtain ⟨L, w, mt9, mv9, sw9, hv9, tk9, cn9, tn9, mtk9, msp9, g1, g2, g3, g4, g5, g6⟩ := q_both p0 n hn c1 (fun i hi => ⟨(hM i hi).1.symm, (hM i hi).2.1.symm, (hM i hi).2.2.1, (hM i hi).2.2.2.1⟩) (fun i j hi hj => (hF i j hi hj).1.symm) ⟨((hP _ (kv_c4 c1)).2.1).symm, (hP _ (kv_c4 c1)).2.2.2.2.1, (hP _ (kv_c4 c1)).2.2.2.2.2⟩ (fun i hi => ⟨(hR i hi).1, (hR i hi).2.1, (hR i hi).2.2.2.1, (hR i hi).2.2.2.2.1, (hR i hi).2.2.2.2.2.2.1, (hR i hi).2.2.2.2.2.2.2.1, (hR i hi).2.2.2.2.2.2.2.2.2.2.1, (hR i hi).2.2.2.2.2.2.2.2.2.2.2.2.2.1⟩) mt mv sw hv tk hk2.2 mcn mtn mtk msp ba hk1 hk2.1
    have hX : pf_X2_gap kc kh fo kp n qp qm qv qc p0 mt mv sw hv tk = some (.inl (nI w, mt9, mv9, sw9, hv9, tk9)) := by
      unfold pf_X2_gap
      rw [q_P, if_pos c1]
      simp only [kv_x0_s, g1, kv_q6_s, g2, kv_q1_s]
    have hY : pf_X3_gap co ho ve pr (nI n) rp rm rc ro p0 th mcn mtn mtk msp ba = some (nI w, 0, cn9, tn9, mtk9, msp9, nI L) := by
      unfold pf_X3_gap
      rw [q_isP, if_pos c1]
      simp only [kv_q1_s, if_neg (show ¬ ((1 : Int32) = 0) by decide), g3, kv_q6_s]
    rw [hX, hY]
    refine ⟨(by intro c; cases c), (by intro c9 c; cases c), (by intro c; cases c), ?_, (by intro q0 q1 q2 q3 q4 q5 q6 c; cases c)⟩
    intro q0 q1 q2 q3 q4 q5 q6 q7 q8 q9 q10 q11 q12 c d
    cases c
    cases d
    exact ⟨rfl, rfl, ⟨hn, rfl, rfl, g5, g6, g4⟩, hM, hF, hP, hR, hO⟩

set_option maxHeartbeats 1000000 in
theorem ag_uncovered (kc : Nat → Int32) (kh : Nat → Int32) (fo : Nat → Nat → Int32) (kl : Nat → Int32) (kp : Nat → Int32) (dy : Int32) (n : Nat) (qp : Nat → Int32) (qm : Nat → Int32) (ql : Nat → Int32) (qv : Nat → Int32) (qc : Nat → Int32) (qe : Nat → Int32) (mt : Nat → Int32) (mv : Nat → Int32) (sw : Nat → Int32) (hv : Int32) (tk : Nat → Int32) (th : Int32) (nw : Int32) (co : Nat → Int32) (ho : Nat → Int32) (ve : Nat → Int32) (la : Nat → Int32) (pr : Nat → Int32) (rg : Int32) (rp : Nat → Int32) (rm : Nat → Int32) (rc : Nat → Int32) (re : Nat → Int32) (ro : Nat → Int32) (rl : Nat → Int32) (mcn : Nat → Int32) (mtn : Nat → Int32) (mtk : Nat → Int32) (msp : Nat → Int32) (ba : Int32) (p0 : Int32) (hI : kv_inv kc kh fo kl kp dy n qp qm ql qv qc qe sw nw co ho ve la pr rg rp rm rc re ro rl mtk msp) : (pf_X2_uncovered kc kh fo kp n qp qm qv qc p0 mt mv sw hv tk ≠ none) ∧ (∀ c9, pf_X2_uncovered kc kh fo kp n qp qm qv qc p0 mt mv sw hv tk = some (.inr c9) → c9 = 1) ∧ (pf_X3_uncovered co ho ve pr rg rp rm rc ro p0 th mcn mtn mtk msp ba ≠ none) ∧ (∀ (v : Int32) (mt' : Nat → Int32) (mv' : Nat → Int32) (sw' : Nat → Int32) (hv' : Int32) (tk' : Nat → Int32) (b9 : Int32) (th' : Int32) (mcn' : Nat → Int32) (mtn' : Nat → Int32) (mtk' : Nat → Int32) (msp' : Nat → Int32) (ba' : Int32), pf_X2_uncovered kc kh fo kp n qp qm qv qc p0 mt mv sw hv tk = some (.inl (v, mt', mv', sw', hv', tk')) → pf_X3_uncovered co ho ve pr rg rp rm rc ro p0 th mcn mtn mtk msp ba = some (b9, th', mcn', mtn', mtk', msp', ba') → th' = 0 ∧ v = b9 ∧ kv_inv kc kh fo kl kp dy n qp qm ql qv qc qe sw' nw co ho ve la pr rg rp rm rc re ro rl mtk' msp') ∧ (∀ (b9 : Int32) (th' : Int32) (mcn' : Nat → Int32) (mtn' : Nat → Int32) (mtk' : Nat → Int32) (msp' : Nat → Int32) (ba' : Int32), pf_X2_uncovered kc kh fo kp n qp qm qv qc p0 mt mv sw hv tk = some (.inr 1) → pf_X3_uncovered co ho ve pr rg rp rm rc ro p0 th mcn mtn mtk msp ba = some (b9, th', mcn', mtn', mtk', msp', ba') → th' = 1 ∧ kv_inv kc kh fo kl kp dy n qp qm ql qv qc qe sw nw co ho ve la pr rg rp rm rc re ro rl mtk' msp') := by
  obtain ⟨⟨hn, hrg, hdy, hk1, hk2⟩, hM, hF, hP, hR, hO⟩ := hI
  subst hrg
  subst hdy
  cases c1 : kv_iv p0 0 3
  · skip
    have hX : pf_X2_uncovered kc kh fo kp n qp qm qv qc p0 mt mv sw hv tk = some (.inr 1) := by simp [q_rg, q_M, q_P, q_in, q_isM, q_isP, q_isR, kv_x0, kv_x1, kv_q0, kv_q1, kv_q2, kv_q7, kv_q9, kv_T, pf_X3_fails, pf_X2_uncovered, c1]
    have hY : pf_X3_uncovered co ho ve pr (nI n) rp rm rc ro p0 th mcn mtn mtk msp ba = some (0, 1, mcn, mtn, mtk, msp, ba) := by simp [q_rg, q_M, q_P, q_in, q_isM, q_isP, q_isR, kv_x0, kv_x1, kv_q0, kv_q1, kv_q2, kv_q7, kv_q9, kv_T, pf_X3_fails, pf_X3_uncovered, c1]
    rw [hX, hY]
    exact ⟨(by intro c; cases c), (by intro c9 c; cases c; decide), (by intro c; cases c), (by intro q0 q1 q2 q3 q4 q5 q6 q7 q8 q9 q10 q11 q12 c; cases c), (by intro q0 q1 q2 q3 q4 q5 q6 _ c; cases c; exact ⟨rfl, ⟨hn, rfl, rfl, hk1, hk2⟩, hM, hF, hP, hR, hO⟩)⟩
  · skip
    obtain ⟨L, w, mt9, mv9, sw9, hv9, tk9, cn9, tn9, mtk9, msp9, g1, g2, g3, g4, g5, g6⟩ := q_both p0 n hn c1 (fun i hi => ⟨(hM i hi).1.symm, (hM i hi).2.1.symm, (hM i hi).2.2.1, (hM i hi).2.2.2.1⟩) (fun i j hi hj => (hF i j hi hj).1.symm) ⟨((hP _ (kv_c4 c1)).2.1).symm, (hP _ (kv_c4 c1)).2.2.2.2.1, (hP _ (kv_c4 c1)).2.2.2.2.2⟩ (fun i hi => ⟨(hR i hi).1, (hR i hi).2.1, (hR i hi).2.2.2.1, (hR i hi).2.2.2.2.1, (hR i hi).2.2.2.2.2.2.1, (hR i hi).2.2.2.2.2.2.2.1, (hR i hi).2.2.2.2.2.2.2.2.2.2.1, (hR i hi).2.2.2.2.2.2.2.2.2.2.2.2.2.1⟩) mt mv sw hv tk hk2.2 mcn mtn mtk msp ba hk1 hk2.1
    have hX : pf_X2_uncovered kc kh fo kp n qp qm qv qc p0 mt mv sw hv tk = some (.inl (nI L, mt9, mv9, sw9, hv9, tk9)) := by
      unfold pf_X2_uncovered
      rw [q_P, if_pos c1]
      simp only [kv_x0_s, g1, kv_q6_s, g2, kv_q1_s]
    have hY : pf_X3_uncovered co ho ve pr (nI n) rp rm rc ro p0 th mcn mtn mtk msp ba = some (nI L, 0, cn9, tn9, mtk9, msp9, nI L) := by
      unfold pf_X3_uncovered
      rw [q_isP, if_pos c1]
      simp only [kv_q1_s, if_neg (show ¬ ((1 : Int32) = 0) by decide), g3, kv_q6_s]
    rw [hX, hY]
    refine ⟨(by intro c; cases c), (by intro c9 c; cases c), (by intro c; cases c), ?_, (by intro q0 q1 q2 q3 q4 q5 q6 c; cases c)⟩
    intro q0 q1 q2 q3 q4 q5 q6 q7 q8 q9 q10 q11 q12 c d
    cases c
    cases d
    exact ⟨rfl, rfl, ⟨hn, rfl, rfl, g5, g6, g4⟩, hM, hF, hP, hR, hO⟩

set_option maxHeartbeats 1000000 in
theorem ag_gapIf (kc : Nat → Int32) (kh : Nat → Int32) (ks : Nat → Int32) (fo : Nat → Nat → Int32) (kl : Nat → Int32) (kp : Nat → Int32) (dy : Int32) (n : Nat) (qp : Nat → Int32) (qm : Nat → Int32) (ql : Nat → Int32) (qv : Nat → Int32) (qc : Nat → Int32) (qe : Nat → Int32) (mt : Nat → Int32) (mv : Nat → Int32) (sw : Nat → Int32) (hv : Int32) (tk : Nat → Int32) (th : Int32) (nw : Int32) (co : Nat → Int32) (ho : Nat → Int32) (ve : Nat → Int32) (la : Nat → Int32) (pr : Nat → Int32) (rg : Int32) (rp : Nat → Int32) (rm : Nat → Int32) (rc : Nat → Int32) (re : Nat → Int32) (ro : Nat → Int32) (rl : Nat → Int32) (mcn : Nat → Int32) (mtn : Nat → Int32) (mtk : Nat → Int32) (msp : Nat → Int32) (ba : Int32) (p0 : Int32) (p1 : Int32) (p2 : Int32) (hI : kv_inv kc kh fo kl kp dy n qp qm ql qv qc qe sw nw co ho ve la pr rg rp rm rc re ro rl mtk msp) : (pf_X2_gapIf kc kh fo kp n qp qm qv qc p0 p1 p2 ks mt mv sw hv tk ≠ none) ∧ (∀ c9, pf_X2_gapIf kc kh fo kp n qp qm qv qc p0 p1 p2 ks mt mv sw hv tk = some (.inr c9) → c9 = 1 ∨ c9 = 2 ∨ c9 = 3) ∧ (pf_X3_gapIf co ve pr rg rp rm rc ro p0 p1 p2 th ho mcn mtn mtk msp ba ≠ none) ∧ (∀ (v : Int32) (ks' : Nat → Int32) (mt' : Nat → Int32) (mv' : Nat → Int32) (sw' : Nat → Int32) (hv' : Int32) (tk' : Nat → Int32) (b9 : Int32) (th' : Int32) (ho' : Nat → Int32) (mcn' : Nat → Int32) (mtn' : Nat → Int32) (mtk' : Nat → Int32) (msp' : Nat → Int32) (ba' : Int32), pf_X2_gapIf kc kh fo kp n qp qm qv qc p0 p1 p2 ks mt mv sw hv tk = some (.inl (v, ks', mt', mv', sw', hv', tk')) → pf_X3_gapIf co ve pr rg rp rm rc ro p0 p1 p2 th ho mcn mtn mtk msp ba = some (b9, th', ho', mcn', mtn', mtk', msp', ba') → th' = 0 ∧ v = b9 ∧ kv_inv kc kh fo kl kp dy n qp qm ql qv qc qe sw' nw co ho' ve la pr rg rp rm rc re ro rl mtk' msp') ∧ (∀ (b9 : Int32) (th' : Int32) (ho' : Nat → Int32) (mcn' : Nat → Int32) (mtn' : Nat → Int32) (mtk' : Nat → Int32) (msp' : Nat → Int32) (ba' : Int32), pf_X2_gapIf kc kh fo kp n qp qm qv qc p0 p1 p2 ks mt mv sw hv tk = some (.inr 1) → pf_X3_gapIf co ve pr rg rp rm rc ro p0 p1 p2 th ho mcn mtn mtk msp ba = some (b9, th', ho', mcn', mtn', mtk', msp', ba') → th' = 1 ∧ kv_inv kc kh fo kl kp dy n qp qm ql qv qc qe sw nw co ho' ve la pr rg rp rm rc re ro rl mtk' msp') ∧ (∀ (b9 : Int32) (th' : Int32) (ho' : Nat → Int32) (mcn' : Nat → Int32) (mtn' : Nat → Int32) (mtk' : Nat → Int32) (msp' : Nat → Int32) (ba' : Int32), pf_X2_gapIf kc kh fo kp n qp qm qv qc p0 p1 p2 ks mt mv sw hv tk = some (.inr 2) → pf_X3_gapIf co ve pr rg rp rm rc ro p0 p1 p2 th ho mcn mtn mtk msp ba = some (b9, th', ho', mcn', mtn', mtk', msp', ba') → th' = 2 ∧ kv_inv kc kh fo kl kp dy n qp qm ql qv qc qe sw nw co ho' ve la pr rg rp rm rc re ro rl mtk' msp') ∧ (∀ (b9 : Int32) (th' : Int32) (ho' : Nat → Int32) (mcn' : Nat → Int32) (mtn' : Nat → Int32) (mtk' : Nat → Int32) (msp' : Nat → Int32) (ba' : Int32), pf_X2_gapIf kc kh fo kp n qp qm qv qc p0 p1 p2 ks mt mv sw hv tk = some (.inr 3) → pf_X3_gapIf co ve pr rg rp rm rc ro p0 p1 p2 th ho mcn mtn mtk msp ba = some (b9, th', ho', mcn', mtn', mtk', msp', ba') → th' = 3 ∧ kv_inv kc kh fo kl kp dy n qp qm ql qv qc qe sw nw co ho' ve la pr rg rp rm rc re ro rl mtk' msp') := by
  obtain ⟨⟨hn, hrg, hdy, hk1, hk2⟩, hM, hF, hP, hR, hO⟩ := hI
  subst hrg
  subst hdy
  cases c1 : kv_iv p0 0 3
  · skip
    have hX : pf_X2_gapIf kc kh fo kp n qp qm qv qc p0 p1 p2 ks mt mv sw hv tk = some (.inr 1) := by simp [q_rg, q_M, q_P, q_in, q_isM, q_isP, q_isR, kv_x0, kv_x1, kv_q0, kv_q1, kv_q2, kv_q7, kv_q9, kv_T, pf_X3_fails, pf_X2_gapIf, q_mv2, show nI 1 = 1 from rfl, show nI 2 = 2 from rfl, show nI 3 = 3 from rfl, nI_0, c1]
    have hY : pf_X3_gapIf co ve pr (nI n) rp rm rc ro p0 p1 p2 th ho mcn mtn mtk msp ba = some (0, 1, ho, mcn, mtn, mtk, msp, ba) := by simp [q_rg, q_M, q_P, q_in, q_isM, q_isP, q_isR, kv_x0, kv_x1, kv_q0, kv_q1, kv_q2, kv_q7, kv_q9, kv_T, pf_X3_fails, pf_X3_gapIf, pf_X3_gapIf_18, show nI 1 = 1 from rfl, show nI 2 = 2 from rfl, show nI 3 = 3 from rfl, nI_0, show ¬ ((1 : Int32) ≤ 0) by decide, show ¬ ((2 : Int32) ≤ 0) by decide, show ¬ ((3 : Int32) ≤ 0) by decide, c1]
    rw [hX, hY]
    exact ⟨(by intro c; cases c), (by intro c9 c; cases c; decide), (by intro c; cases c), (by intro q0 q1 q2 q3 q4 q5 q6 q7 q8 q9 q10 q11 q12 q13 q14 c; cases c), (by intro q0 q1 q2 q3 q4 q5 q6 q7 _ c; cases c; exact ⟨rfl, ⟨hn, rfl, rfl, hk1, hk2⟩, hM, hF, hP, hR, hO⟩), (by intro q0 q1 q2 q3 q4 q5 q6 q7 c; cases c), (by intro q0 q1 q2 q3 q4 q5 q6 q7 c; cases c)⟩
  · skip
    have hmv := kv_mv_c (fun i hi => (hM i hi).2.1) p1 p2
    have hrf := q_mv3 ho p1 p2
    rw [← hmv] at hrf
    by_cases c2 : kv_mv kh p1 p2 = 1
    · skip
      have hX : pf_X2_gapIf kc kh fo kp n qp qm qv qc p0 p1 p2 ks mt mv sw hv tk = some (.inr 1) := by simp [q_rg, q_M, q_P, q_in, q_isM, q_isP, q_isR, kv_x0, kv_x1, kv_q0, kv_q1, kv_q2, kv_q7, kv_q9, kv_T, pf_X3_fails, pf_X2_gapIf, q_mv2, show nI 1 = 1 from rfl, show nI 2 = 2 from rfl, show nI 3 = 3 from rfl, nI_0, c1, kv_g4 c1, hrf, c2]
      have hY : pf_X3_gapIf co ve pr (nI n) rp rm rc ro p0 p1 p2 th ho mcn mtn mtk msp ba = some (0, 1, ho, mcn, mtn, mtk, msp, ba) := by simp [q_rg, q_M, q_P, q_in, q_isM, q_isP, q_isR, kv_x0, kv_x1, kv_q0, kv_q1, kv_q2, kv_q7, kv_q9, kv_T, pf_X3_fails, pf_X3_gapIf, pf_X3_gapIf_18, show nI 1 = 1 from rfl, show nI 2 = 2 from rfl, show nI 3 = 3 from rfl, nI_0, show ¬ ((1 : Int32) ≤ 0) by decide, show ¬ ((2 : Int32) ≤ 0) by decide, show ¬ ((3 : Int32) ≤ 0) by decide, c1, kv_g4 c1, hrf, c2]
      rw [hX, hY]
      exact ⟨(by intro c; cases c), (by intro c9 c; cases c; decide), (by intro c; cases c), (by intro q0 q1 q2 q3 q4 q5 q6 q7 q8 q9 q10 q11 q12 q13 q14 c; cases c), (by intro q0 q1 q2 q3 q4 q5 q6 q7 _ c; cases c; exact ⟨rfl, ⟨hn, rfl, rfl, hk1, hk2⟩, hM, hF, hP, hR, hO⟩), (by intro q0 q1 q2 q3 q4 q5 q6 q7 c; cases c), (by intro q0 q1 q2 q3 q4 q5 q6 q7 c; cases c)⟩
    · skip
      by_cases c3 : kv_mv kh p1 p2 = 2
      · skip
        have hX : pf_X2_gapIf kc kh fo kp n qp qm qv qc p0 p1 p2 ks mt mv sw hv tk = some (.inr 2) := by simp [q_rg, q_M, q_P, q_in, q_isM, q_isP, q_isR, kv_x0, kv_x1, kv_q0, kv_q1, kv_q2, kv_q7, kv_q9, kv_T, pf_X3_fails, pf_X2_gapIf, q_mv2, show nI 1 = 1 from rfl, show nI 2 = 2 from rfl, show nI 3 = 3 from rfl, nI_0, c1, kv_g4 c1, hrf, c2, c3]
        have hY : pf_X3_gapIf co ve pr (nI n) rp rm rc ro p0 p1 p2 th ho mcn mtn mtk msp ba = some (0, 2, ho, mcn, mtn, mtk, msp, ba) := by simp [q_rg, q_M, q_P, q_in, q_isM, q_isP, q_isR, kv_x0, kv_x1, kv_q0, kv_q1, kv_q2, kv_q7, kv_q9, kv_T, pf_X3_fails, pf_X3_gapIf, pf_X3_gapIf_18, show nI 1 = 1 from rfl, show nI 2 = 2 from rfl, show nI 3 = 3 from rfl, nI_0, show ¬ ((1 : Int32) ≤ 0) by decide, show ¬ ((2 : Int32) ≤ 0) by decide, show ¬ ((3 : Int32) ≤ 0) by decide, c1, kv_g4 c1, hrf, c2, c3]
        rw [hX, hY]
        exact ⟨(by intro c; cases c), (by intro c9 c; cases c; decide), (by intro c; cases c), (by intro q0 q1 q2 q3 q4 q5 q6 q7 q8 q9 q10 q11 q12 q13 q14 c; cases c), (by intro q0 q1 q2 q3 q4 q5 q6 q7 c; cases c), (by intro q0 q1 q2 q3 q4 q5 q6 q7 _ c; cases c; exact ⟨rfl, ⟨hn, rfl, rfl, hk1, hk2⟩, hM, hF, hP, hR, hO⟩), (by intro q0 q1 q2 q3 q4 q5 q6 q7 c; cases c)⟩
      · skip
        by_cases c4 : kv_mv kh p1 p2 = 3
        · skip
          have hX : pf_X2_gapIf kc kh fo kp n qp qm qv qc p0 p1 p2 ks mt mv sw hv tk = some (.inr 3) := by simp [q_rg, q_M, q_P, q_in, q_isM, q_isP, q_isR, kv_x0, kv_x1, kv_q0, kv_q1, kv_q2, kv_q7, kv_q9, kv_T, pf_X3_fails, pf_X2_gapIf, q_mv2, show nI 1 = 1 from rfl, show nI 2 = 2 from rfl, show nI 3 = 3 from rfl, nI_0, c1, kv_g4 c1, hrf, c2, c3, c4]
          have hY : pf_X3_gapIf co ve pr (nI n) rp rm rc ro p0 p1 p2 th ho mcn mtn mtk msp ba = some (0, 3, ho, mcn, mtn, mtk, msp, ba) := by simp [q_rg, q_M, q_P, q_in, q_isM, q_isP, q_isR, kv_x0, kv_x1, kv_q0, kv_q1, kv_q2, kv_q7, kv_q9, kv_T, pf_X3_fails, pf_X3_gapIf, pf_X3_gapIf_18, show nI 1 = 1 from rfl, show nI 2 = 2 from rfl, show nI 3 = 3 from rfl, nI_0, show ¬ ((1 : Int32) ≤ 0) by decide, show ¬ ((2 : Int32) ≤ 0) by decide, show ¬ ((3 : Int32) ≤ 0) by decide, c1, kv_g4 c1, hrf, c2, c3, c4]
          rw [hX, hY]
          exact ⟨(by intro c; cases c), (by intro c9 c; cases c; decide), (by intro c; cases c), (by intro q0 q1 q2 q3 q4 q5 q6 q7 q8 q9 q10 q11 q12 q13 q14 c; cases c), (by intro q0 q1 q2 q3 q4 q5 q6 q7 c; cases c), (by intro q0 q1 q2 q3 q4 q5 q6 q7 c; cases c), (by intro q0 q1 q2 q3 q4 q5 q6 q7 _ c; cases c; exact ⟨rfl, ⟨hn, rfl, rfl, hk1, hk2⟩, hM, hF, hP, hR, hO⟩)⟩
        · skip
          have c0 : kv_mv kh p1 p2 = 0 := by have := kv_mv_le kh p1 p2; omega
          have c9 := (kv_mv_0 c0).1
          have hks : ∀ i, i < 8 → upd ho p1.toNatClampNeg p2 i = upd (va_cpy kh ks 0 0 8) p1.toNatClampNeg p2 i := fun i hi => by
            unfold upd
            by_cases e : i = p1.toNatClampNeg
            · rw [if_pos e, if_pos e]
            · rw [if_neg e, if_neg e, pk_cpy_in (Nat.zero_le i) (by omega), Nat.zero_add, Nat.sub_zero]; exact (hM i hi).2.1.symm
          obtain ⟨L, w, mt9, mv9, sw9, hv9, tk9, cn9, tn9, mtk9, msp9, g1, g2, g3, g4, g5, g6⟩ := q_both (hs := upd (va_cpy kh ks 0 0 8) p1.toNatClampNeg p2) (ho := upd ho p1.toNatClampNeg p2) p0 n hn c1 (fun i hi => ⟨(hM i hi).1.symm, hks i hi, (hM i hi).2.2.1, (hM i hi).2.2.2.1⟩) (fun i j hi hj => (hF i j hi hj).1.symm) ⟨((hP _ (kv_c4 c1)).2.1).symm, (hP _ (kv_c4 c1)).2.2.2.2.1, (hP _ (kv_c4 c1)).2.2.2.2.2⟩ (fun i hi => ⟨(hR i hi).1, (hR i hi).2.1, (hR i hi).2.2.2.1, (hR i hi).2.2.2.2.1, (hR i hi).2.2.2.2.2.2.1, (hR i hi).2.2.2.2.2.2.2.1, (hR i hi).2.2.2.2.2.2.2.2.2.2.1, (hR i hi).2.2.2.2.2.2.2.2.2.2.2.2.2.1⟩) mt mv sw hv tk hk2.2 mcn mtn mtk msp ba hk1 hk2.1
          have hX : pf_X2_gapIf kc kh fo kp n qp qm qv qc p0 p1 p2 ks mt mv sw hv tk = some (.inl (nI w, upd (va_cpy kh ks 0 0 8) p1.toNatClampNeg p2, mt9, mv9, sw9, hv9, tk9)) := by
            unfold pf_X2_gapIf kv_T
            rw [q_P, if_pos c1, q_mv2, if_pos c0]
            simp only [kv_x0_s, kv_g8 c9, show ((0 : Int32).toNatClampNeg) = 0 from rfl, show ((8 : Int32).toNatClampNeg) = 8 from rfl, g1, kv_q6_s, g2, kv_q1_s]
          have hY : pf_X3_gapIf co ve pr (nI n) rp rm rc ro p0 p1 p2 th ho mcn mtn mtk msp ba = some (nI w, 0, upd (upd ho p1.toNatClampNeg p2) p1.toNatClampNeg (ho p1.toNatClampNeg), cn9, tn9, mtk9, msp9, nI L) := by
            unfold pf_X3_gapIf
            rw [q_isP, if_pos c1]
            simp only [kv_q1_s, if_neg (show ¬ ((1 : Int32) = 0) by decide), hrf, c0, nI_0]
            unfold pf_X3_gapIf_18 kv_T
            simp only [if_pos (show (0 : Int32) ≤ 0 by decide), kv_g8 c9, g3, kv_q6_s]
          rw [hX, hY]
          refine ⟨(by intro c; cases c), (by intro c9 c; cases c), (by intro c; cases c), ?_, (by intro q0 q1 q2 q3 q4 q5 q6 q7 c; cases c), (by intro q0 q1 q2 q3 q4 q5 q6 q7 c; cases c), (by intro q0 q1 q2 q3 q4 q5 q6 q7 c; cases c)⟩
          intro q0 q1 q2 q3 q4 q5 q6 q7 q8 q9 q10 q11 q12 q13 q14 c d
          cases c
          cases d
          refine ⟨rfl, rfl, ⟨hn, rfl, rfl, g5, g6, g4⟩, fun i hi => ?_, hF, hP, hR, hO⟩
          obtain ⟨a1, a2, a3⟩ := hM i hi
          refine ⟨a1, ?_, a3⟩
          unfold upd
          by_cases e : i = p1.toNatClampNeg
          · rw [if_pos e, a2, e]
          · rw [if_neg e, if_neg e, a2]
