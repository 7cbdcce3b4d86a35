section KVL46
theorem kv_1a (b : Nat) : (1 : Int32) + nI b = nI (1 + b) := nI_add 1 b
theorem u_mcall (kh : Nat → Int32) (p0 p1 p2 p3 : Int32) (h1 : ¬ kv_mv kh p0 p1 = 1) : pf_L_calls_0 p0 p1 p2 p3 kh = some (if kv_mv kh p0 p1 = 0 then kh p0.toNatClampNeg else kv_cd (kv_mv kh p0 p1), if kv_mv kh p0 p1 = 0 then upd kh p0.toNatClampNeg p1 else kh) := by
  unfold pf_L_calls_0 pf_X2_move
  rw [q_mv2]
  by_cases c0 : kv_mv kh p0 p1 = 0
  · have c9 := (kv_mv_0 c0).1
    rw [if_pos c0, if_pos c0, if_pos c0, kv_x0_s, kv_g8 c9, kv_T_s, kv_g8 c9, kv_T_s]
    rfl
  · have hle := kv_mv_le kh p0 p1
    rw [if_neg c0, if_neg c0, if_neg c0]
    rcases (show kv_mv kh p0 p1 = 2 ∨ kv_mv kh p0 p1 = 3 by omega) with e | e
    · rw [e]; rfl
    · rw [e]; rfl
section MA
variable {lm lp lr lq kc kh : Nat → Int32} {fo : Nat → Nat → Int32} {kl kp : Nat → Int32} {dy : Int32} {n : Nat} {qp qm ql qv qc qe sw : Nat → Int32}
theorem u_setC (h : kv_li lm lp lr lq kc kh fo kl kp dy n qp qm ql qv qc qe sw) (p1 p2 v z4 : Int32) {k m : Nat} (hk : k < 5) (hz : z4 = nI m) (hm0 : 0 < m) (hm : m ≤ 64) : ∃ (lm' kc' kh' : Nat → Int32) (fo' : Nat → Nat → Int32), pf_L_machines_46 lp kl p1 p2 (nI k) (kc k) (nI (4 * k)) 1 v z4 lm kc kh fo = some (1, lm', kc', kh', fo') ∧ kv_li lm' lp lr lq kc' kh' fo' kl kp dy n qp qm ql qv qc qe sw := by
  obtain ⟨b, hb, eb⟩ := u_lowL v z4 hz hm0 (by omega)
  have hx1 : 1 ≤ nI (1 + b) := nI_le (a := 1) (by omega) (by omega)
  have hx2 : nI (1 + b) ≤ 64 := nI_le (b := 64) (by omega) (by decide)
  refine ⟨upd lm (4 * k) (nI (1 + b)), upd kc k (nI (1 + b)), kh, fo, ?_, ?_⟩
  · unfold pf_L_machines_46
    rw [eb, kv_q1_s, kv_gN (show 4 * k < 20 by omega) (by omega), kv_T_s, nI_clamp (show 4 * k < 2 ^ 31 by omega), kv_1a, kv_4i, kv_gN (show 4 * k < 20 by omega) (by omega), kv_T_s, nI_clamp (show 4 * k < 2 ^ 31 by omega), show upd lm (4 * k) (nI (1 + b)) (4 * k) = nI (1 + b) from if_pos rfl, n_setCores kc (show k < 8 by omega) hx1 hx2, kv_q2_s, if_pos rfl]
  · refine ⟨h.1, fun i hi => ?_, fun i hi => ?_, h.2.2.2.1, fun i j hi hj => ?_, h.2.2.2.2.2.1, h.2.2.2.2.2.2⟩
    · obtain ⟨a1, a2, a3⟩ := h.2.1 i hi
      unfold upd
      rw [if_neg (show ¬ 4 * i + 1 = 4 * k by omega)]
      by_cases e : i = k
      · rw [if_pos (by omega), if_pos e]; exact ⟨rfl, a2, a3⟩
      · rw [if_neg (by omega), if_neg e]; exact ⟨a1, a2, a3⟩
    · unfold upd
      by_cases e : i = k
      · rw [if_pos e]; exact ⟨hx1, hx2⟩
      · rw [if_neg e]; exact h.2.2.1 i hi
    · unfold upd
      rw [if_neg (by omega)]
      exact h.2.2.2.2.1 i j hi hj
theorem u_moveL (h : kv_li lm lp lr lq kc kh fo kl kp dy n qp qm ql qv qc qe sw) (p1 p2 to : Int32) {k : Nat} (hk : k < 5) (hto : to = -1 ∨ ∃ c, c < 5 ∧ to = nI c) : ∃ (lm' kc' kh' : Nat → Int32) (fo' : Nat → Nat → Int32), kv_q1 (pf_L_refuses lm (nI k) to) (fun r_96 => kv_G (nI (4 * k + 1)) 20 (kv_T (lm (nI (4 * k + 1)).toNatClampNeg) (fun y_108 => if 0 ≤ r_96 then pf_L_machines_130 lp kl p1 p2 (nI k) to r_96 y_108 (nI (4 * k + 1)) to lm kc kh fo else pf_L_machines_130 lp kl p1 p2 (nI k) to r_96 y_108 (nI (4 * k + 1)) y_108 lm kc kh fo))) = some (1, lm', kc', kh', fo') ∧ kv_li lm' lp lr lq kc' kh' fo' kl kp dy n qp qm ql qv qc qe sw := by
  obtain ⟨r1, r2⟩ := u_ref lm kh k to hk hto (fun j hj => ⟨(h.2.1 j hj).2.1, (h.2.1 j hj).2.2.1⟩) h.2.2.2.1
  have hc1 : (nI (4 * k + 1)).toNatClampNeg = 4 * k + 1 := nI_clamp (by omega)
  have hck : (nI k).toNatClampNeg = k := nI_clamp (by omega)
  have hlk := (h.2.1 k hk).2.1
  have hcall := u_mcall kh (nI k) to 0 0 r2
  rw [r1, kv_q1_s, kv_gN (show 4 * k + 1 < 20 by omega) (by omega), kv_T_s, hc1, hlk]
  have hle := kv_mv_le kh (nI k) to
  by_cases c0 : kv_mv kh (nI k) to = 0
  · have ecd : kv_cd (kv_mv kh (nI k) to) = 0 := by rw [c0]; rfl
    rw [if_pos c0, if_pos c0, hck] at hcall
    rw [ecd, if_pos (Int32.le_refl 0)]
    refine ⟨upd lm (4 * k + 1) to, kc, upd kh k to, fo, ?_, ?_⟩
    · unfold pf_L_machines_130 pf_L_machines_154
      rw [kv_gN (show 4 * k + 1 < 20 by omega) (by omega), kv_T_s, hc1, hcall, kv_q2_s, if_pos (Int32.le_refl 0), if_pos rfl]
    · have hbnd : -1 ≤ to ∧ to ≤ 4 := by
        rcases hto with q | ⟨c, q1, q2⟩
        · rw [q]; decide
        · rw [q2]
          refine ⟨?_, nI_le (b := 4) (by omega) (by decide)⟩
          rw [Int32.le_iff_toInt_le, kv_in1, nI_toInt (by omega)]
          omega
      refine ⟨h.1, fun i hi => ?_, h.2.2.1, fun i a b => ?_, fun i j hi hj => ?_, h.2.2.2.2.2.1, h.2.2.2.2.2.2⟩
      · obtain ⟨a1, a2, a3⟩ := h.2.1 i hi
        unfold upd
        rw [if_neg (show ¬ 4 * i = 4 * k + 1 by omega)]
        by_cases e : i = k
        · rw [if_pos (by omega), if_pos e]; exact ⟨a1, rfl, hbnd⟩
        · rw [if_neg (by omega), if_neg e]; exact ⟨a1, a2, a3⟩
      · unfold upd
        rw [if_neg (by omega)]
        exact h.2.2.2.1 i a b
      · unfold upd
        rw [if_neg (by omega)]
        exact h.2.2.2.2.1 i j hi hj
  · have hneg : ¬ 0 ≤ kv_cd (kv_mv kh (nI k) to) := by
      rcases (show kv_mv kh (nI k) to = 2 ∨ kv_mv kh (nI k) to = 3 by omega) with q | q
      · rw [q]; decide
      · rw [q]; decide
    rw [if_neg c0, if_neg c0] at hcall
    rw [if_neg hneg]
    have hsame : upd lm (4 * k + 1) (kh k) = lm := by
      funext j
      unfold upd
      by_cases e : j = 4 * k + 1
      · rw [if_pos e, e, hlk]
      · rw [if_neg e]
    refine ⟨lm, kc, kh, fo, ?_, h⟩
    unfold pf_L_machines_130 pf_L_machines_154
    rw [kv_gN (show 4 * k + 1 < 20 by omega) (by omega), kv_T_s, hc1, hcall, kv_q2_s, if_neg hneg, if_pos rfl, hsame]
theorem u_mach (h : kv_li lm lp lr lq kc kh fo kl kp dy n qp qm ql qv qc qe sw) (p1 p2 : Int32) : ∃ (lm' kc' kh' : Nat → Int32) (fo' : Nat → Nat → Int32), pf_L_machines lp kl p1 p2 lm kc kh fo = some (1, lm', kc', kh', fo') ∧ kv_li lm' lp lr lq kc' kh' fo' kl kp dy n qp qm ql qv qc qe sw := by
  obtain ⟨k, hk, ek⟩ := u_lowL p2 5 (k := 5) rfl (by decide) (by decide)
  unfold pf_L_machines
  rw [ek, kv_q1_s]
  by_cases c0 : p1 = 0
  · obtain ⟨b, hb, eb⟩ := u_lowL (p2 >>> (13 &&& 31)) 3 (k := 3) rfl (by decide) (by decide)
    rw [if_pos c0, kv_4i, kv_gN (show 4 * k < 20 by omega) (by omega), kv_T_s, nI_clamp (show 4 * k < 2 ^ 31 by omega), (h.2.1 k hk).1, eb, kv_q1_s]
    by_cases c : nI b = 0
    · rw [if_pos c]
      exact u_setC h p1 p2 (p2 >>> (3 &&& 31)) 64 hk (m := 64) rfl (by decide) (by decide)
    · rw [if_neg c]
      exact u_setC h p1 p2 (p2 >>> (3 &&& 31)) 10 hk (m := 10) rfl (by decide) (by decide)
  · rw [if_neg c0]
    by_cases c1 : p1 = 1
    · obtain ⟨b, hb, eb⟩ := u_lowL (p2 >>> (3 &&& 31)) 6 (k := 6) rfl (by decide) (by decide)
      have hto : nI b - 1 = -1 ∨ ∃ c, c < 5 ∧ nI b - 1 = nI c := by
        rcases u_to hb with ⟨_, q⟩ | ⟨c, _, q1, q2⟩
        · exact Or.inl q
        · exact Or.inr ⟨c, q1, q2⟩
      rw [if_pos c1, eb, kv_q1_s, kv_T_s, kv_4i, kv_p1]
      exact u_moveL h p1 p2 (nI b - 1) hk hto
    · obtain ⟨p, hp, ep⟩ := u_lowL (p2 >>> (3 &&& 31)) 2 (k := 2) rfl (by decide) (by decide)
      obtain ⟨b1, b2, b3, b4, b5⟩ := h.2.2.2.2.2.2.1 p hp
      obtain ⟨v, v1, v2⟩ := nI_of2 (n := 9) kv_i9 (x := kl p) (fun q => by rw [Int32.lt_iff_toInt_lt, kv_i0] at q; rw [Int32.le_iff_toInt_le, kv_i1] at b3; omega) b4
      obtain ⟨x, hx, ex⟩ := u_lowL (p2 >>> (5 &&& 31)) (kl p + 1) (k := v + 1) (by rw [v2, nI_1]) (by omega) (by omega)
      have hx0 : 0 ≤ nI x := nI_pos' (by omega)
      have hx1 : nI x ≤ kl p := by rw [v2]; exact nI_le (by omega) (by omega)
      have hg : ∀ {α : Type} (z : Option α), kv_G (nI (4 * k + 2 + p)) 20 z = z := fun z => kv_gN (by omega) (by omega) z
      have hc : (nI (4 * k + 2 + p)).toNatClampNeg = 4 * k + 2 + p := nI_clamp (by omega)
      rw [if_neg c1, ep, kv_q1_s, kv_4i, kv_a2, nI_add, hg, kv_T_s, hc, kv_2i, kv_gN (show 2 * p < 4 by omega) (by omega), kv_T_s, nI_clamp (show 2 * p < 2 ^ 31 by omega), b1, ex, kv_q1_s, hg, kv_T_s, n_find kl fo (show k < 8 by omega) (show p < 4 by omega) hx0 hx1, kv_q2_s, h.2.2.2.2.1 k p hk hp, if_pos rfl]
      refine ⟨_, _, _, _, rfl, h.1, fun i hi => ?_, h.2.2.1, h.2.2.2.1, fun i j hi hj => ?_, fun i j a b hj => ?_, h.2.2.2.2.2.2⟩
      · obtain ⟨a1, a2, a3⟩ := h.2.1 i hi
        unfold upd
        rw [if_neg (by omega), if_neg (by omega)]
        exact ⟨a1, a2, a3⟩
      · unfold kv_upR upd
        by_cases e : i = k
        · rw [if_pos e]
          by_cases e2 : j = p
          · rw [if_pos (by omega), if_pos e2]
          · rw [if_neg (by omega), if_neg e2, ← e]
            exact h.2.2.2.2.1 i j hi hj
        · rw [if_neg e, if_neg (by omega)]
          exact h.2.2.2.2.1 i j hi hj
      · unfold kv_upR
        rw [if_neg (by omega)]
        exact h.2.2.2.2.2.1 i j a b hj
end MA
end KVL46
