section KVL48
section PR
variable {lm lp lr lq kc kh : Nat → Int32} {fo : Nat → Nat → Int32} {kl kp : Nat → Int32} {dy : Int32} {n : Nat} {qp qm ql qv qc qe sw : Nat → Int32}
def u_pt (lm lq kc kh : Nat → Int32) (fo : Nat → Nat → Int32) (dy : Int32) (n : Nat) (qp qm ql qc qe sw : Nat → Int32) (X : Option (Int32 × (Nat → Int32) × (Nat → Int32) × (Nat → Int32) × (Nat → Int32) × (Nat → Int32))) : Prop := ∃ (lp' lr' kl' kp' qv' : Nat → Int32), X = some (1, lp', lr', kl', kp', qv') ∧ kv_li lm lp' lr' lq kc kh fo kl' kp' dy n qp qm ql qv' qc qe sw
theorem u_price (h : kv_li lm lp lr lq kc kh fo kl kp dy n qp qm ql qv qc qe sw) (p1 v z3 : Int32) {p m : Nat} (hp : p < 2) (hz : z3 = nI m) (hm0 : 0 < m) (hm : m ≤ 1001) : u_pt lm lq kc kh fo dy n qp qm ql qc qe sw (pf_L_products_55 lq dy n qp ql p1 (nI p) (kp p) (nI (2 * p + 1)) v z3 lp lr kl kp qv) := by
  obtain ⟨x, hx, ex⟩ := u_lowL v z3 hz hm0 (by omega)
  have x1 : 0 ≤ nI x := nI_pos' (by omega)
  have x2 : nI x ≤ 1000 := nI_le (b := 1000) (by omega) (by decide)
  unfold pf_L_products_55
  rw [ex, kv_q1_s, kv_gN (show 2 * p + 1 < 4 by omega) (by omega), kv_T_s, nI_clamp (show 2 * p + 1 < 2 ^ 31 by omega), kv_2i, kv_p1, kv_gN (show 2 * p + 1 < 4 by omega) (by omega), kv_T_s, nI_clamp (show 2 * p + 1 < 2 ^ 31 by omega), kv_ups, n_setPrice kp (show p < 4 by omega) x1 x2, kv_q2_s, if_pos rfl]
  refine ⟨_, _, _, _, _, rfl, h.1, h.2.1, h.2.2.1, h.2.2.2.1, h.2.2.2.2.1, h.2.2.2.2.2.1, fun j hj => ?_, h.2.2.2.2.2.2.2⟩
  obtain ⟨a1, a2, a3, a4, a5, a6⟩ := h.2.2.2.2.2.2.1 j hj
  rw [kv_upo (show 2 * j ≠ 2 * p + 1 by omega)]
  by_cases e : j = p
  · rw [e, kv_ups, kv_ups, ← e]; exact ⟨a1, rfl, a3, a4, x1, x2⟩
  · rw [kv_upo (show 2 * j + 1 ≠ 2 * p + 1 by omega), kv_upo e]; exact ⟨a1, a2, a3, a4, a5, a6⟩
theorem u_172 (p1 : Int32) (k107 : Int32 → Int32 → Int32 → (Nat → Int32) → (Nat → Int32) → (Nat → Int32) → (Nat → Int32) → (Nat → Int32) → Option (Int32 × (Nat → Int32) × (Nat → Int32) × (Nat → Int32) × (Nat → Int32) × (Nat → Int32))) (x5 : Int32) (c i : Nat) (b : Bool) (hi : i < 10) : pf_L_products_172 lq dy n qp ql p1 k107 x5 (nI c) (nI i) (if b = true then 1 else 0) lp lr kl kp qv = k107 x5 (nI (if b = true then c + 1 else c)) (nI (i + 1)) lp (upd lr (6 * i + 4) (if b = true then lr (6 * i + 4) + 1 else lr (6 * i + 4))) kl kp qv := by
  have hz : nI c + 0 = nI c := by rw [← nI_0, nI_add, Nat.add_zero]
  unfold pf_L_products_172 pf_L_products_194 pf_L_products_208
  rw [kv_T_s, kv_6i, kv_a4, kv_gN (show 6 * i + 4 < 60 by omega) (by omega), kv_T_s, nI_clamp (show 6 * i + 4 < 2 ^ 31 by omega)]
  cases b with
  | true => rw [if_pos rfl, if_neg n10, kv_gN (show 6 * i + 4 < 60 by omega) (by omega), kv_T_s, if_neg n10, kv_T_s, nI_1, nI_1, if_pos rfl, if_pos rfl]
  | false => rw [if_neg (show ¬ (false = true) by decide), if_pos rfl, kv_gN (show 6 * i + 4 < 60 by omega) (by omega), kv_T_s, if_pos rfl, kv_T_s, hz, nI_1, if_neg (show ¬ (false = true) by decide), if_neg (show ¬ (false = true) by decide), Int32.add_zero]
theorem u_rel (p1 : Int32) {p : Nat} (old : Int32) (kl' qv0 : Nat → Int32) (hn : n ≤ 10) (hp : p < 2) (h0 : lq 0 = dy) (h1 : lq 1 = nI n) (hl : lp (2 * p) = old) : ∀ (k f g i c : Nat) (qv lr : Nat → Int32), i + k = n → k < f → k < g → c ≤ i → (∀ j, j < n → lr (6 * j) = qp j ∧ lr (6 * j + 4) = qv j ∧ lr (6 * j + 5) = ql j) → ∃ (c' : Nat) (qv' lr' : Nat → Int32), c' ≤ n ∧ pf_X2_release_41 dy n qp ql (nI p) f old (nI c) (nI i) kl' qv = some (.inl (nI c', kl', qv')) ∧ pf_L_products_107 lq dy n qp ql p1 g (nI p) (nI c) (nI i) lp lr kl kp qv0 = pf_L_products_217 lq dy n qp ql p1 (nI p) (nI c') lp lr' kl kp qv0 ∧ (∀ j, j < n → lr' (6 * j + 4) = qv' j ∧ (qv' j = qv j ∨ (qp j = nI p ∧ qv' j = old + 1))) ∧ ∀ j, (∀ m, j ≠ 6 * m + 4) → lr' j = lr j := by
  intro k
  induction k with
  | zero =>
    intro f g i c qv lr hi hf hg hc hv
    obtain ⟨f, rfl⟩ : ∃ z, f = z + 1 := ⟨f - 1, by omega⟩
    obtain ⟨g, rfl⟩ : ∃ z, g = z + 1 := ⟨g - 1, by omega⟩
    refine ⟨c, qv, lr, by omega, ?_, ?_, fun j hj => ⟨(hv j hj).2.1, Or.inl rfl⟩, fun j _ => rfl⟩
    · rw [pf_X2_release_41.eq_2]
      unfold pf_X2_release_41b
      rw [if_pos ((kv_leN (by omega) (by omega)).mpr (by omega))]
    · rw [pf_L_products_107.eq_2]
      unfold pf_L_products_107b
      rw [g3_1, kv_T_s, c_1, h1, if_pos ((nI_leI (by omega) (by omega)).mpr (by omega))]
  | succ k ih =>
    intro f g i c qv lr hi hf hg hc hv
    obtain ⟨f, rfl⟩ : ∃ z, f = z + 1 := ⟨f - 1, by omega⟩
    obtain ⟨g, rfl⟩ : ∃ z, g = z + 1 := ⟨g - 1, by omega⟩
    have hin : i < n := by omega
    obtain ⟨v0, v4, v5⟩ := hv i hin
    -- the keeper's turn
    have kstep : pf_X2_release_41 dy n qp ql (nI p) (f + 1) old (nI c) (nI i) kl' qv = if qp i = nI p ∧ qv i = old ∧ ¬ ql i < dy then pf_X2_release_41 dy n qp ql (nI p) f old (nI (c + 1)) (nI (i + 1)) kl' (upd qv i (old + 1)) else pf_X2_release_41 dy n qp ql (nI p) f old (nI c) (nI (i + 1)) kl' qv := by
      rw [pf_X2_release_41.eq_2]
      unfold pf_X2_release_41b
      rw [if_neg (fun q => by have := (kv_leN (by omega) (by omega)).mp q; omega), kv_lN (by omega) hin, kv_T_s, nI_clamp (show i < 2 ^ 31 by omega), kv_T_s, kv_T_s, nI_1, nI_1]
      by_cases s1 : qp i = nI p
      · by_cases s2 : qv i = old
        · by_cases s3 : ql i < dy
          · rw [if_pos s1, if_pos s2, if_pos s3, if_neg (fun q => q.2.2 s3)]
          · rw [if_pos s1, if_pos s2, if_neg s3, if_pos ⟨s1, s2, s3⟩]
        · rw [if_pos s1, if_neg s2, if_neg (fun q => s2 q.2.1)]
      · rw [if_neg s1, if_neg (fun q => s1 q.1)]
    have lstep : pf_L_products_107 lq dy n qp ql p1 (g + 1) (nI p) (nI c) (nI i) lp lr kl kp qv0 = if qp i = nI p ∧ qv i = old ∧ ¬ ql i < dy then pf_L_products_107 lq dy n qp ql p1 g (nI p) (nI (c + 1)) (nI (i + 1)) lp (upd lr (6 * i + 4) (lr (6 * i + 4) + 1)) kl kp qv0 else pf_L_products_107 lq dy n qp ql p1 g (nI p) (nI c) (nI (i + 1)) lp (upd lr (6 * i + 4) (lr (6 * i + 4))) kl kp qv0 := by
      have hT := u_172 (lq := lq) (dy := dy) (n := n) (qp := qp) (ql := ql) (lp := lp) (lr := lr) (kl := kl) (kp := kp) (qv := qv0) p1 (pf_L_products_107 lq dy n qp ql p1 g) (nI p) c i true (by omega)
      have hF := u_172 (lq := lq) (dy := dy) (n := n) (qp := qp) (ql := ql) (lp := lp) (lr := lr) (kl := kl) (kp := kp) (qv := qv0) p1 (pf_L_products_107 lq dy n qp ql p1 g) (nI p) c i false (by omega)
      rw [if_pos rfl, if_pos rfl, if_pos rfl] at hT
      rw [if_neg (by decide), if_neg (by decide), if_neg (by decide)] at hF
      rw [pf_L_products_107.eq_2]
      unfold pf_L_products_107b
      rw [g3_1, kv_T_s, c_1, h1, if_neg (fun q => by have := (nI_leI (by omega) (by omega)).mp q; omega), if_neg (fun q => by rw [Int32.lt_iff_toInt_lt, nI_toInt (by omega), kv_i0] at q; omega), kv_6i, kv_gN (show 6 * i < 60 by omega) (by omega), kv_T_s, nI_clamp (show 6 * i < 2 ^ 31 by omega), v0, kv_a4, kv_gN (show 6 * i + 4 < 60 by omega) (by omega), kv_T_s, nI_clamp (show 6 * i + 4 < 2 ^ 31 by omega), v4, kv_2i, kv_gN (show 2 * p < 4 by omega) (by omega), kv_T_s, nI_clamp (show 2 * p < 2 ^ 31 by omega), hl, kv_a5, kv_gN (show 6 * i + 5 < 60 by omega) (by omega), kv_T_s, nI_clamp (show 6 * i + 5 < 2 ^ 31 by omega), v5, g3_0, kv_T_s, c_0, h0, hT, hF, v4]
      by_cases s1 : qp i = nI p
      · by_cases s2 : qv i = old
        · by_cases s3 : ql i < dy
          · rw [if_pos s1, if_pos s2, if_pos s3, if_neg (fun q => q.2.2 s3)]
          · rw [if_pos s1, if_pos s2, if_neg s3, if_pos ⟨s1, s2, s3⟩]
        · rw [if_pos s1, if_neg s2, if_neg (fun q => s2 q.2.1)]
      · rw [if_neg s1, if_neg (fun q => s1 q.1)]
    rw [kstep, lstep]
    by_cases s : qp i = nI p ∧ qv i = old ∧ ¬ ql i < dy
    · rw [if_pos s, if_pos s, v4, s.2.1]
      obtain ⟨c', qv', lr', g0, g1, g2, g3, g4⟩ := ih f g (i + 1) (c + 1) (upd qv i (old + 1)) (upd lr (6 * i + 4) (old + 1)) (by omega) (by omega) (by omega) (by omega) (fun j hj => by
        obtain ⟨w0, w4, w5⟩ := hv j hj
        rw [kv_upo (show 6 * j ≠ 6 * i + 4 by omega), kv_upo (show 6 * j + 5 ≠ 6 * i + 4 by omega)]
        refine ⟨w0, ?_, w5⟩
        by_cases e : j = i
        · rw [e, kv_ups, kv_ups]
        · rw [kv_upo (show 6 * j + 4 ≠ 6 * i + 4 by omega), kv_upo e, w4])
      refine ⟨c', qv', lr', g0, g1, g2, fun j hj => ⟨(g3 j hj).1, ?_⟩, fun j hj => (g4 j hj).trans (kv_upo (hj i))⟩
      rcases (g3 j hj).2 with q | q
      · by_cases e : j = i
        · rw [e, kv_ups] at q
          exact Or.inr ⟨by rw [e]; exact s.1, by rw [e]; exact q⟩
        · rw [kv_upo e] at q
          exact Or.inl q
      · exact Or.inr q
    · rw [if_neg s, if_neg s]
      obtain ⟨c', qv', lr', g0, g1, g2, g3, g4⟩ := ih f g (i + 1) c qv (upd lr (6 * i + 4) (lr (6 * i + 4))) (by omega) (by omega) (by omega) (by omega) (fun j hj => by
        obtain ⟨w0, w4, w5⟩ := hv j hj
        rw [kv_upo (show 6 * j ≠ 6 * i + 4 by omega), kv_upo (show 6 * j + 5 ≠ 6 * i + 4 by omega)]
        refine ⟨w0, ?_, w5⟩
        by_cases e : j = i
        · rw [e, kv_ups, v4]
        · rw [kv_upo (show 6 * j + 4 ≠ 6 * i + 4 by omega), w4])
      exact ⟨c', qv', lr', g0, g1, g2, g3, fun j hj => (g4 j hj).trans (kv_upo (hj i))⟩
theorem kv_le1 {x old : Int32} (h : x ≤ old) (h9 : old < 9) (h1 : 1 ≤ old) : x ≤ old + 1 := by
  simp only [Int32.lt_iff_toInt_lt, Int32.le_iff_toInt_le, kv_i9, kv_i1] at *
  rw [kv_addI (by rw [kv_i1]; omega) (by rw [kv_i1]; omega), kv_i1]
  omega
theorem u_prod (h : kv_li lm lp lr lq kc kh fo kl kp dy n qp qm ql qv qc qe sw) (p1 : Int32) : u_pt lm lq kc kh fo dy n qp qm ql qc qe sw (pf_L_products lq dy n qp ql p1 lp lr kl kp qv) := by
  have hn10 := h.1.1
  obtain ⟨p, hp, ep⟩ := u_lowL p1 2 (k := 2) rfl (by decide) (by decide)
  obtain ⟨b, hb, eb⟩ := u_lowL (p1 >>> (1 &&& 31)) 3 (k := 3) rfl (by decide) (by decide)
  obtain ⟨b1, b2, b3, b4, b5⟩ := h.2.2.2.2.2.2.1 p hp
  have hcp : (nI p).toNatClampNeg = p := nI_clamp (by omega)
  unfold pf_L_products
  rw [ep, kv_q1_s, eb, kv_q1_s]
  by_cases c0 : nI b = 0
  · obtain ⟨d, hd, ed⟩ := u_lowL (p1 >>> (13 &&& 31)) 3 (k := 3) rfl (by decide) (by decide)
    rw [if_pos c0, kv_2i, kv_p1, kv_gN (show 2 * p + 1 < 4 by omega) (by omega), kv_T_s, nI_clamp (show 2 * p + 1 < 2 ^ 31 by omega), b2, ed, kv_q1_s]
    by_cases c : nI d = 0
    · rw [if_pos c]
      exact u_price h p1 (p1 >>> (3 &&& 31)) 1001 hp (m := 1001) rfl (by decide) (by decide)
    · rw [if_neg c]
      exact u_price h p1 (p1 >>> (3 &&& 31)) 5 hp (m := 5) rfl (by decide) (by decide)
  · rw [if_neg c0, kv_2i, kv_gN (show 2 * p < 4 by omega) (by omega), kv_T_s, nI_clamp (show 2 * p < 2 ^ 31 by omega), b1]
    unfold pf_L_products_102
    have hcall : pf_L_calls_1 dy n qp ql (nI p) 0 0 0 kl qv = kv_cat (if kl p < 9 then pf_X2_release_41 dy n qp ql (nI p) kv_F (kl p) 0 0 (upd kl p (kl p + 1)) qv else some (.inr 3)) (kl, qv) := by
      unfold pf_L_calls_1 pf_X2_release
      rw [q_P, if_pos (kv_ivP (show p < 4 by omega)), kv_x0_s, kv_gN (show p < 4 by omega) (by omega), kv_T_s, hcp, kv_gN (show p < 4 by omega) (by omega), kv_T_s]
    by_cases c9 : kl p = 9
    · have e217 : pf_L_products_107 lq dy n qp ql p1 kv_F (nI p) (-2003) 0 lp lr kl kp qv = pf_L_products_217 lq dy n qp ql p1 (nI p) (-2003) lp lr kl kp qv := by
        rw [kv_FS, pf_L_products_107.eq_2]
        unfold pf_L_products_107b
        rw [g3_1, kv_T_s, c_1, h.1.2.2.1, if_pos (show (-2003 : Int32) < 0 by decide), ite_self]
      have hs : upd lp (2 * p) (kl p + 0) = lp := by
        funext j
        rw [Int32.add_zero]
        unfold upd
        by_cases e : j = 2 * p
        · rw [if_pos e, e, b1]
        · rw [if_neg e]
      rw [if_pos c9, e217]
      unfold pf_L_products_217 pf_L_products_234
      rw [kv_T_s, kv_2i, kv_gN (show 2 * p < 4 by omega) (by omega), kv_T_s, nI_clamp (show 2 * p < 2 ^ 31 by omega), b1, if_neg (show ¬ ((0 : Int32) ≤ -2003) by decide), kv_gN (show 2 * p < 4 by omega) (by omega), kv_T_s, hs, hcall, if_neg (by rw [c9]; decide)]
      exact ⟨lp, lr, kl, kp, qv, rfl, h⟩
    · have c3 : kl p < 9 := kv_n9 b4 c9
      obtain ⟨c', qv', lr', g0, g1, g2, g3, g4⟩ := u_rel (lq := lq) (lp := lp) (dy := dy) (n := n) (qp := qp) (ql := ql) (kl := kl) (kp := kp) p1 (p := p) (kl p) (upd kl p (kl p + 1)) qv hn10 hp h.1.2.1 h.1.2.2.1 b1 n kv_F kv_F 0 0 qv lr (by omega) (kv_Fgt (by omega)) (kv_Fgt (by omega)) (Nat.le_refl 0) (fun j hj => ⟨(h.2.2.2.2.2.2.2 j hj).1, (h.2.2.2.2.2.2.2 j hj).2.2.2.2.1, (h.2.2.2.2.2.2.2 j hj).2.2.2.2.2.1⟩)
      rw [nI_0] at g1 g2
      rw [if_pos c3, g1] at hcall
      rw [if_neg c9, g2]
      unfold pf_L_products_217 pf_L_products_234
      rw [kv_T_s, kv_2i, kv_gN (show 2 * p < 4 by omega) (by omega), kv_T_s, nI_clamp (show 2 * p < 2 ^ 31 by omega), b1, if_pos (show (0 : Int32) ≤ nI c' from nI_pos' (by omega)), kv_gN (show 2 * p < 4 by omega) (by omega), kv_T_s, hcall]
      show u_pt lm lq kc kh fo dy n qp qm ql qc qe sw (if nI c' = nI c' then _ else _)
      rw [if_pos rfl]
      refine ⟨upd lp (2 * p) (kl p + 1), lr', upd kl p (kl p + 1), kp, qv', rfl, h.1, h.2.1, h.2.2.1, h.2.2.2.1, h.2.2.2.2.1, h.2.2.2.2.2.1, fun j hj => ?_, fun i hi => ?_⟩
      · obtain ⟨a1, a2, a3, a4, a5, a6⟩ := h.2.2.2.2.2.2.1 j hj
        obtain ⟨d1, d2⟩ := kv_up9 b3 c3
        rw [kv_upo (show 2 * j + 1 ≠ 2 * p by omega)]
        by_cases e : j = p
        · rw [e, kv_ups, kv_ups, ← e]
          rw [e] at a2 a5 a6 ⊢
          exact ⟨rfl, a2, d1, d2, a5, a6⟩
        · rw [kv_upo (show 2 * j ≠ 2 * p by omega), kv_upo e]; exact ⟨a1, a2, a3, a4, a5, a6⟩
      · obtain ⟨a1, a2, a3, a4, a5, a6, a7, a8, a9, a10, a11, a12, a13, a14⟩ := h.2.2.2.2.2.2.2 i hi
        obtain ⟨w1, w2⟩ := g3 i hi
        refine ⟨(g4 _ (fun m => by omega)).trans a1, (g4 _ (fun m => by omega)).trans a2, (g4 _ (fun m => by omega)).trans a3, (g4 _ (fun m => by omega)).trans a4, w1, (g4 _ (fun m => by omega)).trans a6, a7, a8, a9, a10, a11, a12, a13, ?_⟩
        rcases w2 with q | ⟨q1, q2⟩
        · rw [q]
          by_cases e : (qp i).toNatClampNeg = p
          · rw [e, kv_ups]
            rw [e] at a14
            exact kv_le1 a14 c3 b3
          · rw [kv_upo e]
            exact a14
        · rw [q1, hcp, kv_ups, q2]
          exact Int32.le_refl _
end PR
end KVL48
