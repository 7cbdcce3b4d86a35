section KVP22
theorem kv_x1_s {A β : Type} (a : A) (k : A → Option (β ⊕ Nat)) : kv_x1 (some (.inl a)) k = k a := rfl
theorem kv_q5_s {A B C E F β : Type} (a : A) (b : B) (c : C) (d : E) (e : F) (k : A → B → C → E → F → Option β) : kv_q5 (some (a, b, c, d, e)) k = k a b c d e := rfl
theorem q_spare {kc kh : Nat → Int32} {fo : Nat → Nat → Int32} {kp qp qm qv qc : Nat → Int32} {co ho ve pr rp rm rc ro : Nat → Int32} (r n : Nat) (hn : n ≤ 12) (hrn : r < n) (hM : ∀ i, i < 8 → co i = kc i ∧ ho i = kh i ∧ 1 ≤ kc i ∧ kc i ≤ 64) (hV : ∀ i j, i < 8 → j < 4 → ve (4 * i + j) = fo i j) (hP : ∀ j, j < 4 → pr j = kp j ∧ 0 ≤ kp j ∧ kp j ≤ 1000) (hR : ∀ i, i < n → qp i = rp i ∧ qm i = rm i ∧ qv i = ro i ∧ qc i = rc i ∧ 0 ≤ qp i ∧ qp i ≤ 3 ∧ 0 ≤ qc i ∧ qc i ≤ 500) (hri : kv_iv (nI r) 0 (nI n - 1) = true) (mt mv sw : Nat → Int32) (hv : Int32) (tk : Nat → Int32) (h2 : sw 0 = 0) (th : Int32) (cn tn mtk msp : Nat → Int32) (ba : Int32) (h3 : mtk 0 = 0) (h4 : msp 0 = 0) :
    ∃ (M : Nat) (mt' mv' sw' : Nat → Int32) (hv' : Int32) (tk' rc' cn' tn' mtk' msp' : Nat → Int32) (ba' : Int32), pf_X2_spare kc kh fo kp n qp qm qv qc (nI r) mt mv sw hv tk = some (.inl (qc r - nI M, mt', mv', sw', hv', tk')) ∧ pf_X3_spare co ho ve pr (nI n) rp rm ro (nI r) th rc cn tn mtk msp ba = some (qc r - nI M, 0, rc', cn', tn', mtk', msp', ba') ∧ sw' 0 = 0 ∧ mtk' 0 = 0 ∧ msp' 0 = 0 ∧ (∀ j, j ≠ r → rc' j = rc j) ∧ rc' r = qc r := by
  have hqp : ∀ i, i < n → kv_iv (qp i) 0 3 = true := fun i hi => by
    obtain ⟨_, _, _, _, a, b, _⟩ := hR i hi
    exact kv_ivT.mpr ⟨Int32.le_iff_toInt_le.mp a, Int32.le_iff_toInt_le.mp b⟩
  have hqc : ∀ i, i < n → 0 ≤ qc i ∧ qc i ≤ 500 := fun i hi => (hR i hi).2.2.2.2.2.2
  have hsm : ∀ i, i < n → kv_same kc fo qp qm qv kh i co ho ve rp rm ro := fun i hi => ⟨by omega, hqp i hi, (hR i hi).1.symm, (hR i hi).2.1.symm, (hR i hi).2.2.1.symm, fun j hj => ⟨(hM j hj).2.1, (hM j hj).1, (hM j hj).2.2⟩, hV⟩
  have h1 := hqp r hrn
  have hP1 := hP _ (kv_c4 h1)
  have hK : ∀ i, i < 8 → 1 ≤ kc i ∧ kc i ≤ 64 := fun i hi => (hM i hi).2.2
  obtain ⟨e1, e2⟩ := kv_cntN (hqc r hrn).1 (hqc r hrn).2
  generalize hall : (qc r).toInt.toNat = all at e1 e2
  obtain ⟨sw', tk1, s1, s2, s3⟩ := q_start kc fo kp (qp r) sw hv tk h1 hK hP1.2 h2
  obtain ⟨mt1, mv1, tk2, v1, g1, g2, g3, g4⟩ := q_lab kc fo kp n qp qm qv qc kh (nI r) (qp r) sw' (nI (kv_hs fo (qp r).toNatClampNeg)) hn hqp hqc hK n kv_F 0 mt mv tk1 kv_v0 (fun S => S = 0) (by omega) (kv_Fgt (by omega)) s3 (fun S hS => by unfold kv_v0; by_cases e : S = 0; exact Or.inl (if_pos e); exact Or.inr (if_neg e)) (fun S hS => by unfold kv_v0; split <;> simp_all)
  rw [nI_0] at g1
  have gA : pf_X2_layAllBut kc fo kp n qp qm qv qc (nI r) (qp r) kh mt mv sw hv tk = some (mt1, mv1, sw', nI (kv_hs fo (qp r).toNatClampNeg), tk2) := by
    unfold pf_X2_layAllBut
    rw [s1, kv_q3_s]
    exact g1
  obtain ⟨mt2, mv2, t1, t2⟩ := q_take kc fo n qp qm qv kh r mt1 mv1 h1 hK
  obtain ⟨tk3, v, l1, l2, l3⟩ := q_lo mt2 mv2 (kv_tk kc qm r) (fun j => kv_cv fo qp qm qv kh r (nI j)) t2 tk2 v1 g2
  generalize hA : kv_reach (kv_use qp qc (qp r) (nI r)) (kv_tk kc qm) (fun r j => kv_cv fo qp qm qv kh r (nI j)) (fun r => (qc r).toInt.toNat) 0 n (fun S => S = 0) = A at g4
  have hst : ∀ S, S < 256 → ∀ x, x < 1000000 → (v S ≤ x ↔ kv_step (kv_tk kc qm r) (fun j => kv_cv fo qp qm qv kh r (nI j)) x A S) := by
    intro S hS x hx
    rw [l3 S hS x]
    constructor
    · rintro ⟨a, U, q1, q2, q3, q4⟩
      rcases g3 a q1 with q | q
      · exact ⟨a, U, q1, q2, (g4 a q1).mp q, by omega, q4⟩
      · omega
    · rintro ⟨a, U, q1, q2, q3, q4, q5⟩
      have := (g4 a q1).mpr q3
      exact ⟨a, U, q1, q2, by omega, q5⟩
  have hA0 : A 0 := by rw [← hA]; exact kv_reach_0 _ _ _ _ _ _ _ rfl
  have hst0 : ∀ x, kv_step (kv_tk kc qm r) (fun j => kv_cv fo qp qm qv kh r (nI j)) x A 0 := fun x => ⟨0, 0, by omega, by omega, hA0, by rw [kv_S0]; exact Nat.zero_le x, by rw [kv_O0]; rfl⟩
  have hh := kv_hs_lt fo (qp r).toNatClampNeg
  have hd0 := kv_d_0 hh
  generalize hw : kv_wN kc fo kp (qp r).toNatClampNeg = wN at s2
  have hb : ∀ U, U < 256 → kv_S wN U 8 ≤ 512000 := fun U _ => by
    have := kv_S_le (U := U) (fun j hj => (kv_wNs (fo := fo) (hM j hj).2.2.1 (hM j hj).2.2.2 hP1.2.1 hP1.2.2).2) 8 (Nat.le_refl 8)
    rw [hw] at this
    omega
  generalize hhh : kv_hs fo (qp r).toNatClampNeg = h at gA s2 hh hd0
  have g5 := q_lu (cnt := all) (W := fun U => kv_S wN U 8) s2 hb hh e2 l2
  obtain ⟨m1, S0, m2, m3, m4⟩ := kv_pick_w (W := fun U => kv_S wN U 8) (d := kv_d h) (ok := fun S => decide (v S ≤ all)) hd0 (by rw [decide_eq_true_iff, hst 0 (by omega) all (by omega)]; exact hst0 all)
  have hL : kv_pick (fun U => kv_S wN U 8) (kv_d h) (fun S => decide (v S ≤ all)) 0 256 h < 256 := kv_pick_lt (fun i => kv_d_lt hh) 256 0 _ hh
  generalize kv_pick (fun U => kv_S wN U 8) (kv_d h) (fun S => decide (v S ≤ all)) 0 256 h = L at g5 m1 m4 hL
  have g6 := q_ws s2 hL
  obtain ⟨M, k1, k2, k3⟩ := q_lt (g := kv_S wN L 8) s2 hb (hb L hL) hh l2
  have hMa : M ≤ all := (k3 all (by omega)).mpr ⟨S0, m2, m4.symm, by rw [decide_eq_true_iff] at m3; exact m3⟩
  have hX : pf_X2_spare kc kh fo kp n qp qm qv qc (nI r) mt mv sw hv tk = some (.inl (qc r - nI M, mt2, mv2, sw', nI h, tk3)) := by
    unfold pf_X2_spare
    rw [q_rA hn, if_pos hri, kv_x1_s, nI_clamp (by omega), gA, kv_q5_s, t1, kv_q2_s, l1, kv_q1_s, e1, g5, kv_q1_s, g6, kv_q1_s, k1, kv_q1_s]
  have hleast : ∀ (x : Nat) (rc1 cn tn tk sp : Nat → Int32) (ba : Int32), x ≤ all → (∀ j, j ≠ r → rc1 j = rc j) → rc1 r = nI x → tk 0 = 0 → sp 0 = 0 → ∃ (w : Nat) (cn' tn' tk' sp' : Nat → Int32) (ba' : Int32), pf_X3_least co ho ve pr (nI n) rp rm rc1 ro (rp r) cn tn tk sp ba = some (nI w, cn', tn', tk', sp', ba') ∧ tk' 0 = 0 ∧ sp' 0 = 0 ∧ (nI w = nI (kv_S wN L 8) ↔ M ≤ x) := by
    intro x rc1 cn tn tk sp ba hx hj hrx ht hs
    have hrc : ∀ i, i < n → 0 ≤ rc1 i ∧ rc1 i ≤ 500 := fun i hi => by
      by_cases e : i = r
      · rw [e, hrx]
        exact ⟨nI_pos' (by omega), nI_le (b := 500) (by omega) (by decide)⟩
      · rw [hj i e, ← (hR i hi).2.2.2.1]; exact hqc i hi
    obtain ⟨L2, ok2, cn', tn', tk', sp', w1, w2, w3, w4, w5⟩ := q_model pr rc1 (qp r) n hn hsm hrc h1 (fun i hi => ⟨(hM i hi).1, (hM i hi).2.2⟩) hV hP1.1 hP1.2 cn tn tk sp ba ht hs
    rw [hhh, hw] at w5
    rw [hw, (hR r hrn).1] at w1
    have hst2 : ∀ S, S < 256 → (ok2 S = true ↔ v S ≤ x) := by
      intro S hS
      rw [w4 S hS, hst S hS x (by omega)]
      have ho := kv_reach_out (use := kv_use qp qc (qp r) (nI r)) (use' := kv_use qp rc1 (qp r) (-1)) (t := kv_tk kc qm) (c := fun r j => kv_cv fo qp qm qv kh r (nI j)) (cnt := fun r => (qc r).toInt.toNat) (cnt' := fun r => (rc1 r).toInt.toNat) (r := r) (N := n) (fun i j _ => kv_cv_lt _ _ _ _ _ _ _) (by unfold kv_use; rw [decide_eq_true rfl]; rfl) (fun j h5 h6 => by
        have e := (hj j h6).trans (hR j h5).2.2.2.1.symm
        refine ⟨?_, congrArg (fun z : Int32 => z.toInt.toNat) e⟩
        unfold kv_use
        rw [decide_eq_false (kv_ni1 (by omega)), decide_eq_false (fun q => h6 ((nI_eq (by omega) (by omega)).mp q)), e]) n 0 (fun S => S = 0) S (Nat.zero_le r) (by omega) (by omega) hS
      rw [hA] at ho
      rw [ho]
      have hcx : (rc1 r).toInt.toNat = x := by rw [hrx, nI_toInt (by omega)]; rfl
      have hux : kv_use qp rc1 (qp r) (-1) r = !decide (x = 0) := by
        have h0 : nI x ≤ 0 ↔ x = 0 := by
          have := nI_leI (a := x) (b := 0) (by omega) (by omega)
          rw [nI_0] at this
          rw [this]; omega
        unfold kv_use
        rw [decide_eq_false (kv_ni1 (by omega)), decide_eq_true rfl, hrx]
        simp [h0]
      rw [hux]
      by_cases e : x = 0
      · rw [decide_eq_true e, e]
        exact (kv_step_0 (fun j hj => (kv_tk_le (hK j hj).2).2) S hS).symm
      · rw [decide_eq_false e]
        show kv_step _ _ ((rc1 r).toInt.toNat) A S ↔ _
        rw [hcx]
    obtain ⟨n1, S2, n2, n3, n4⟩ := kv_pick_w (W := fun U => kv_S wN U 8) (d := kv_d h) (ok := ok2) hd0 (by rw [hst2 0 (by omega), hst 0 (by omega) x (by omega)]; exact hst0 x)
    rw [← w5] at n1 n4
    have hL2 : L2 < 256 := by rw [w5]; exact kv_pick_lt (fun i => kv_d_lt hh) 256 0 _ hh
    refine ⟨kv_S wN L2 8, cn', tn', tk', sp', nI L2, w1, w2, w3, ?_⟩
    have b1 := hb L2 hL2
    have b2 := hb L hL
    rw [nI_eq (by omega) (by omega), k3 x (by omega)]
    constructor
    · intro q
      exact ⟨S2, n2, n4.symm.trans q, (hst2 S2 n2).mp n3⟩
    · rintro ⟨S3, q1, q2, q3⟩
      have f1 := n1 S3 q1 ((hst2 S3 q1).mpr q3)
      have f2 := m1 S2 n2 (by rw [decide_eq_true_iff]; have := (hst2 S2 n2).mp n3; omega)
      omega
  obtain ⟨w, cn1, tn1, tk1', sp1, ba1, y1, y2, y3, y4⟩ := hleast all rc cn tn mtk msp ba (Nat.le_refl all) (fun _ _ => rfl) ((hR r hrn).2.2.2.1.symm.trans e1) h3 h4
  have hwg := y4.mpr hMa
  rw [hwg] at y1
  obtain ⟨rc', cn2, tn2, tk2', sp2, ba2, z1, z2, z3, z4, z5⟩ := q_half co ho ve pr (nI n) rp rm ro rc r all (kv_S wN L 8) M (by omega) e2 hleast 502 kv_F 0 all (-1) rc cn1 tn1 tk1' sp1 ba1 (by omega) (kv_Fgt (by omega)) (Nat.zero_le M) hMa (Nat.le_refl all) (by rw [kv_in1]; rfl) (fun _ _ => rfl) y2 y3
  refine ⟨M, mt2, mv2, sw', nI h, tk3, rc', cn2, tn2, tk2', sp2, ba2, hX, ?_, ?_, z4, z5, z2, z3.trans e1.symm⟩
  · have hg12 : ∀ {α : Type} (z : Option α), kv_G (nI r) 12 z = z := fun z => kv_gN (by omega) (by omega) z
    have hrr : rc r = nI all := (hR r hrn).2.2.2.1.symm.trans e1
    unfold pf_X3_spare
    rw [q_isR, if_pos hri, kv_q1_s, if_neg (show ¬ ((1 : Int32) = 0) by decide), hg12, kv_T_s, nI_clamp (by omega), hg12, kv_T_s, y1, kv_q6_s, hrr, e1]
    exact z1
  · have := s2 0 (by omega)
    rw [kv_S0] at this
    exact this
end KVP22
