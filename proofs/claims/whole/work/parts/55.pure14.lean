section KVP14
section LEAST3
variable (co ho ve pr : Nat → Int32) (rg : Int32) (rp rm rc ro : Nat → Int32) (p0 : Int32)
theorem kv_2_b (k2) (i : Nat) (cn tn tk sp : Nat → Int32) (ba : Int32) (hi : i < 256) : pf_X3_least_2b co ho ve pr rg rp rm rc ro p0 k2 (nI i) cn tn tk sp ba = k2 (nI (i + 1)) (upd cn i (if i = 0 then 1 else 0)) tn tk sp ba := by
  have h0 : nI i = 0 ↔ i = 0 := nI_eq (b := 0) (by omega) (by omega)
  unfold pf_X3_least_2b pf_X3_least_23
  rw [if_neg (fun d => by have := (kv_ge256 (by omega)).mp d; omega), kv_gN hi (by omega), kv_gN hi (by omega), nI_1, nI_clamp (show i < 2 ^ 31 by omega)]
  by_cases e : i = 0
  · rw [if_pos (h0.mpr e), if_pos e]; rfl
  · rw [if_neg (fun q => e (h0.mp q)), if_neg e]; rfl
theorem q_2 (tn tk sp : Nat → Int32) (ba : Int32) : ∀ (k f i : Nat) (cn : Nat → Int32), i + k = 256 → k < f → (∀ S, S < i → cn S = if S = 0 then 1 else 0) → ∃ cn', pf_X3_least_2 co ho ve pr rg rp rm rc ro p0 f (nI i) cn tn tk sp ba = pf_X3_least_32 co ho ve pr rg rp rm rc ro p0 kv_F 0 cn' tn tk sp ba ∧ ∀ S, S < 256 → cn' S = if S = 0 then 1 else 0 := by
  intro k
  induction k with
  | zero =>
    intro f i cn hi hf hI
    obtain ⟨f, rfl⟩ : ∃ z, f = z + 1 := ⟨f - 1, by omega⟩
    refine ⟨cn, ?_, fun S hS => hI S (by omega)⟩
    rw [pf_X3_least_2.eq_2]
    unfold pf_X3_least_2b
    rw [if_pos ((kv_ge256 (by omega)).mpr (by omega))]
  | succ k ih =>
    intro f i cn hi hf hI
    obtain ⟨f, rfl⟩ : ∃ z, f = z + 1 := ⟨f - 1, by omega⟩
    rw [pf_X3_least_2.eq_2, kv_2_b co ho ve pr rg rp rm rc ro p0 _ i cn tn tk sp ba (by omega)]
    refine ih f (i + 1) _ (by omega) (by omega) (fun S hS => ?_)
    unfold upd
    by_cases e : S = i
    · rw [if_pos e, e]
    · rw [if_neg e]; exact hI S (by omega)
end LEAST3
theorem kv_reach_0 (use : Nat → Bool) (t c : Nat → Nat → Nat) (cnt : Nat → Nat) : ∀ (k i : Nat) (R : Nat → Prop), R 0 → kv_reach use t c cnt i k R 0 := by
  intro k
  induction k with
  | zero => intro i R h; exact h
  | succ k ih =>
    intro i R h
    rw [kv_reach_S]
    refine ih (i + 1) _ ?_
    cases use i with
    | false => exact h
    | true => exact ⟨0, 0, by omega, by omega, h, by rw [kv_S0]; exact Nat.zero_le _, by rw [kv_O0]; rfl⟩
theorem kv_pick_S (W d : Nat → Nat) (ok : Nat → Bool) (i k L : Nat) : kv_pick W d ok i (k + 1) L = kv_pick W d ok (i + 1) k (if (ok i && kv_less W (d i) L) = true then d i else L) := rfl
theorem kv_pick_1 {W d : Nat → Nat} {ok : Nat → Bool} {L : Nat} (k : Nat) (hd : d 0 = L) : kv_pick W d ok 0 (k + 1) L = kv_pick W d ok 1 k L := by
  rw [kv_pick_S, hd, ite_self]
theorem kv_Fz : ∃ z, kv_F = z + 1 ∧ 66000 < z := ⟨69999, kv_FS, by omega⟩
theorem q_model {kc : Nat → Int32} {fo : Nat → Nat → Int32} {kp qp qm qv hs : Nat → Int32} {co ho ve rp rm ro : Nat → Int32} (pr rc : Nat → Int32) (p0 : Int32) (n : Nat) (hn : n ≤ 12) (hsm : ∀ r, r < n → kv_same kc fo qp qm qv hs r co ho ve rp rm ro) (hqc : ∀ i, i < n → 0 ≤ rc i ∧ rc i ≤ 500) (h1 : kv_iv p0 0 3 = true) (hM : ∀ i, i < 8 → co i = kc i ∧ 1 ≤ kc i ∧ kc i ≤ 64) (hV : ∀ i j, i < 8 → j < 4 → ve (4 * i + j) = fo i j) (hp : pr p0.toNatClampNeg = kp p0.toNatClampNeg) (hq : 0 ≤ kp p0.toNatClampNeg ∧ kp p0.toNatClampNeg ≤ 1000) (cn tn tk sp : Nat → Int32) (ba : Int32) (h2 : tk 0 = 0) (h3 : sp 0 = 0) :
    ∃ (L : Nat) (ok : Nat → Bool) (cn' tn' tk' sp' : Nat → Int32), pf_X3_least co ho ve pr (nI n) rp rm rc ro p0 cn tn tk sp ba = some (nI (kv_S (kv_wN kc fo kp p0.toNatClampNeg) L 8), cn', tn', tk', sp', nI L) ∧ tk' 0 = 0 ∧ sp' 0 = 0 ∧ (∀ S, S < 256 → (ok S = true ↔ kv_reach (kv_use qp rc p0 (-1)) (kv_tk kc qm) (fun r j => kv_cv fo qp qm qv hs r (nI j)) (fun r => (rc r).toInt.toNat) 0 n (fun S => S = 0) S)) ∧ L = kv_pick (fun U => kv_S (kv_wN kc fo kp p0.toNatClampNeg) U 8) (kv_d (kv_hs fo p0.toNatClampNeg)) ok 0 256 (kv_hs fo p0.toNatClampNeg) := by
  have b4 := kv_c4 h1
  have hw : ∀ m, m < 8 → pf_X3_weighs co ve pr (nI m) p0 = some (nI (kv_wN kc fo kp p0.toNatClampNeg m)) := by
    intro m hm
    obtain ⟨a1, a2, a3⟩ := hM m hm
    have hc : (nI m).toNatClampNeg = m := nI_clamp (by omega)
    have h := (q_wt kc co fo ve kp pr (nI m) p0 (kv_ivN hm) h1 (by rw [hc]; exact (hV m _ hm b4).symm) (by rw [hc]; exact a1.symm) hp.symm).2
    rw [h, hc, (kv_wNs (fo := fo) a2 a3 hq.1 hq.2).1]
  have hb : ∀ U, kv_S (kv_wN kc fo kp p0.toNatClampNeg) U 8 ≤ 512000 := fun U => by
    have := kv_S_le (U := U) (fun j hj => (kv_wNs (fo := fo) (hM j hj).2.1 (hM j hj).2.2 hq.1 hq.2).2) 8 (Nat.le_refl 8)
    omega
  obtain ⟨cn1, w1, w2⟩ := q_2 co ho ve pr (nI n) rp rm rc ro p0 tn tk sp ba 256 kv_F 0 cn (by omega) (kv_Fgt (by omega)) (fun S hS => absurd hS (Nat.not_lt_zero S))
  obtain ⟨cn2, tn2, tk2, sp2, w3, w4, w5, w6⟩ := q_32 pr rc p0 n ba hn hsm hqc n kv_F 0 cn1 tn tk sp (fun S => S = 0) (by omega) (kv_Fgt (by omega)) (fun S hS => by
    rw [w2 S hS]
    by_cases e : S = 0
    · rw [if_pos e]; exact ⟨Or.inr rfl, ⟨fun _ => e, fun _ => rfl⟩⟩
    · rw [if_neg e]; exact ⟨Or.inl rfl, ⟨fun c => absurd c (by decide), fun c => absurd c e⟩⟩) h2 h3
  have w7 := q_191 co ho ve pr (nI n) rp rm rc ro p0 fo cn2 tn2 tk2 sp2 ba h1 (fun i hi => hV i _ hi b4) 8 kv_F 0 0 (by omega) (kv_Fgt (by omega)) (by omega)
  rw [nI_0] at w1 w3 w7
  have hh := kv_hs_lt fo p0.toNatClampNeg
  have hd0 : kv_d (kv_hs fo p0.toNatClampNeg) 0 = kv_hs fo p0.toNatClampNeg := kv_d_0 hh
  have hok0 : ¬ cn2 0 = 0 := (kv_bin (w4 0 (by omega)).1).mpr ((w4 0 (by omega)).2.mpr (kv_reach_0 _ _ _ _ _ _ _ rfl))
  obtain ⟨z, hz, hz2⟩ := kv_Fz
  have w8 : pf_X3_least_231 co ho ve pr (nI n) rp rm rc ro p0 kv_F (nI (kv_hs fo p0.toNatClampNeg)) (-1) 0 cn2 tn2 tk2 sp2 ba = pf_X3_least_231 co ho ve pr (nI n) rp rm rc ro p0 z (nI (kv_hs fo p0.toNatClampNeg)) (nI (kv_S (kv_wN kc fo kp p0.toNatClampNeg) (kv_hs fo p0.toNatClampNeg) 8)) (nI 1) cn2 tn2 tk2 sp2 (nI (kv_hs fo p0.toNatClampNeg)) := by
    rw [hz, pf_X3_least_231.eq_2, ← nI_0, kv_231_b co ho ve pr (nI n) rp rm rc ro p0 _ (-1) (kv_hs fo p0.toNatClampNeg) 0 _ cn2 tn2 tk2 sp2 ba hh (by omega) hw, if_pos ⟨hok0, Or.inl rfl⟩, hd0]
  have w9 := q_231 co ho ve pr (nI n) rp rm rc ro p0 (kv_hs fo p0.toNatClampNeg) (kv_wN kc fo kp p0.toNatClampNeg) cn2 tn2 tk2 sp2 hh hw hb 255 z 1 (kv_hs fo p0.toNatClampNeg) (by omega) (by omega) hh
  refine ⟨_, fun S => !decide (cn2 S = 0), cn2, tn2, tk2, sp2, w1.trans (w3.trans (w7.trans (w8.trans w9))), w5, w6, fun S hS => ?_, ?_⟩
  · rw [Bool.not_eq_true', decide_eq_false_iff_not]
    exact (kv_bin (w4 S hS).1).trans (w4 S hS).2
  · exact (kv_pick_1 255 hd0).symm
theorem q_class {kc : Nat → Int32} {fo : Nat → Nat → Int32} {kp qp qm qv qc hs : Nat → Int32} (p0 : Int32) (n : Nat) (hn : n ≤ 12) (hqp : ∀ i, i < n → kv_iv (qp i) 0 3 = true) (hqc : ∀ i, i < n → 0 ≤ qc i ∧ qc i ≤ 500) (h1 : kv_iv p0 0 3 = true) (hM : ∀ i, i < 8 → 1 ≤ kc i ∧ kc i ≤ 64) (hq : 0 ≤ kp p0.toNatClampNeg ∧ kp p0.toNatClampNeg ≤ 1000) (mt mv sw : Nat → Int32) (hv : Int32) (tk : Nat → Int32) (h2 : sw 0 = 0) :
    ∃ (L : Nat) (ok : Nat → Bool) (mt' mv' sw' tk' : Nat → Int32), pf_X2_leastUncovered kc fo kp n qp qm qv qc p0 hs mt mv sw hv tk = some (nI L, mt', mv', sw', nI (kv_hs fo p0.toNatClampNeg), tk') ∧ sw' 0 = 0 ∧ L < 256 ∧ pf_X0_weightOfSet sw' (nI L) = some (nI (kv_S (kv_wN kc fo kp p0.toNatClampNeg) L 8)) ∧ (∀ S, S < 256 → (ok S = true ↔ kv_reach (kv_use qp qc p0 (-1)) (kv_tk kc qm) (fun r j => kv_cv fo qp qm qv hs r (nI j)) (fun r => (qc r).toInt.toNat) 0 n (fun S => S = 0) S)) ∧ L = kv_pick (fun U => kv_S (kv_wN kc fo kp p0.toNatClampNeg) U 8) (kv_d (kv_hs fo p0.toNatClampNeg)) ok 0 256 (kv_hs fo p0.toNatClampNeg) := by
  obtain ⟨sw', tk1, s1, s2, s3⟩ := q_start kc fo kp p0 sw hv tk h1 hM hq h2
  obtain ⟨mt', mv', tk', v', g1, g2, g3, g4⟩ := q_lab kc fo kp n qp qm qv qc hs (-1) p0 sw' (nI (kv_hs fo p0.toNatClampNeg)) hn hqp hqc hM n kv_F 0 mt mv tk1 kv_v0 (fun S => S = 0) (by omega) (kv_Fgt (by omega)) s3 (fun S hS => by unfold kv_v0; by_cases e : S = 0; exact Or.inl (if_pos e); exact Or.inr (if_neg e)) (fun S hS => by unfold kv_v0; split <;> simp_all)
  rw [nI_0] at g1
  have hh := kv_hs_lt fo p0.toNatClampNeg
  have hb : ∀ U, U < 256 → kv_S (kv_wN kc fo kp p0.toNatClampNeg) U 8 ≤ 512000 := fun U _ => by
    have := kv_S_le (U := U) (fun j hj => (kv_wNs (fo := fo) (hM j hj).1 (hM j hj).2 hq.1 hq.2).2) 8 (Nat.le_refl 8)
    omega
  have g5 := q_lu (cnt := 0) (W := fun U => kv_S (kv_wN kc fo kp p0.toNatClampNeg) U 8) s2 hb hh (by omega) g2
  rw [nI_0] at g5
  have hL : kv_pick (fun U => kv_S (kv_wN kc fo kp p0.toNatClampNeg) U 8) (kv_d (kv_hs fo p0.toNatClampNeg)) (fun S => decide (v' S ≤ 0)) 0 256 (kv_hs fo p0.toNatClampNeg) < 256 := kv_pick_lt (fun i => kv_d_lt hh) 256 0 _ hh
  refine ⟨_, fun S => decide (v' S ≤ 0), mt', mv', sw', tk', ?_, ?_, hL, q_ws s2 hL, fun S hS => ?_, rfl⟩
  · unfold pf_X2_leastUncovered pf_X2_layAllBut
    rw [s1]
    simp only [kv_q3]
    rw [g1]
    simp only [kv_q5]
    rw [g5]
    rfl
  · have := s2 0 (by omega)
    rw [kv_S0] at this
    exact this
  · rw [decide_eq_true_iff, ← g4 S hS]
    omega
end KVP14
