section KVL44
theorem u_lowL (v m : Int32) {k : Nat} (h : m = nI k) (h0 : 0 < k) (hk : k < 2 ^ 31) : ∃ a : Nat, a < k ∧ pf_L_low v m = some (nI a) := by
  subst h
  exact u_low v h0 hk
theorem g3_0 {α : Type} (z : Option α) : kv_G (0 : Int32) 3 z = z := kv_gT (n := 3) (x := 0) (by decide) (by decide)
theorem g3_1 {α : Type} (z : Option α) : kv_G (1 : Int32) 3 z = z := kv_gT (n := 3) (x := 1) (by decide) (by decide)
theorem g3_2 {α : Type} (z : Option α) : kv_G (2 : Int32) 3 z = z := kv_gT (n := 3) (x := 2) (by decide) (by decide)
theorem g4_1 {α : Type} (z : Option α) : kv_G (1 : Int32) 4 z = z := kv_gT (n := 4) (x := 1) (by decide) (by decide)
theorem g4_3 {α : Type} (z : Option α) : kv_G (3 : Int32) 4 z = z := kv_gT (n := 4) (x := 3) (by decide) (by decide)
theorem c_0 : ((0 : Int32).toNatClampNeg) = 0 := rfl
theorem c_1 : ((1 : Int32).toNatClampNeg) = 1 := rfl
theorem c_2 : ((2 : Int32).toNatClampNeg) = 2 := rfl
theorem c_3 : ((3 : Int32).toNatClampNeg) = 3 := rfl
theorem n10 : ¬ ((1 : Int32) = 0) := by decide
/-- the law's rows tell the keeper's state -/
def kv_li (lm lp lr lq : Nat → Int32) (kc kh : Nat → Int32) (fo : Nat → Nat → Int32) (kl kp : Nat → Int32) (dy : Int32) (n : Nat) (qp qm ql qv qc qe sw : Nat → Int32) : Prop :=
  (n ≤ 10 ∧ lq 0 = dy ∧ lq 1 = nI n ∧ sw 0 = 0) ∧
  (∀ i, i < 5 → lm (4 * i) = kc i ∧ lm (4 * i + 1) = kh i ∧ -1 ≤ kh i ∧ kh i ≤ 4) ∧
  (∀ i, i < 8 → 1 ≤ kc i ∧ kc i ≤ 64) ∧
  (∀ i, 5 ≤ i → i < 8 → kh i = -1) ∧
  (∀ i j, i < 5 → j < 2 → lm (4 * i + 2 + j) = fo i j) ∧
  (∀ i j, 5 ≤ i → i < 8 → j < 2 → fo i j = 0) ∧
  (∀ j, j < 2 → lp (2 * j) = kl j ∧ lp (2 * j + 1) = kp j ∧ 1 ≤ kl j ∧ kl j ≤ 9 ∧ 0 ≤ kp j ∧ kp j ≤ 1000) ∧
  (∀ i, i < n → lr (6 * i) = qp i ∧ lr (6 * i + 1) = qm i ∧ lr (6 * i + 2) = qc i ∧ lr (6 * i + 3) = qe i ∧ lr (6 * i + 4) = qv i ∧ lr (6 * i + 5) = ql i ∧ (qp i = 0 ∨ qp i = 1) ∧ (qm i = 0 ∨ qm i = 1) ∧ 0 ≤ qc i ∧ 0 ≤ qe i ∧ qc i + qe i ≤ 500 ∧ qc i ≤ 500 ∧ qe i ≤ 500 ∧ qv i ≤ kl (qp i).toNatClampNeg)
theorem u_Pg {lm lp lr : Nat → Int32} {kc : Nat → Int32} {fo : Nat → Nat → Int32} {kp qp qm qv qc hs : Nat → Int32} {n p : Nat} (hn : n ≤ 10) (hp : p < 2) (hM : ∀ i, i < 5 → lm (4 * i) = kc i ∧ lm (4 * i + 1) = hs i ∧ -1 ≤ hs i ∧ hs i ≤ 4) (hK : ∀ i, i < 8 → 1 ≤ kc i ∧ kc i ≤ 64) (hF : ∀ i, i < 5 → lm (4 * i + 2 + p) = fo i p) (h5 : ∀ i, 5 ≤ i → i < 8 → fo i p = 0) (hQ : lp (2 * p + 1) = kp p ∧ 0 ≤ kp p ∧ kp p ≤ 1000) (hR : ∀ i, i < n → lr (6 * i) = qp i ∧ lr (6 * i + 1) = qm i ∧ lr (6 * i + 2) = qc i ∧ lr (6 * i + 4) = qv i ∧ (qm i = 0 ∨ qm i = 1) ∧ 0 ≤ qc i ∧ qc i ≤ 500) : u_P lm lp lr kc fo kp qp qm qv qc hs n p := by
  refine ⟨hn, hp, fun i hi => (hR i hi).1, fun i hi e => ?_, fun i hi => (hR i hi).2.2.2.2.2, fun i j hi hj hj2 c => ?_, hF, h5, fun i hi => (hM i hi).1, hK, hQ⟩
  · obtain ⟨a1, a2, a3, a4, a5, a6, a7⟩ := hR i hi
    obtain ⟨e1, e2⟩ := kv_cntN a6 a7
    exact ⟨by omega, hp, a1.trans e, a2, a3.trans e1, a4, e, a5, e2, fun i hi => (hM i hi).2.1, hF, h5, fun i hi => (hM i hi).1, hK⟩
  · have h := (hM i hi).2.2.2
    rw [c, Int32.le_iff_toInt_le, nI_toInt (by omega), kv_i4] at h
    omega
section LI
variable {lm lp lr lq kc kh : Nat → Int32} {fo : Nat → Nat → Int32} {kl kp : Nat → Int32} {dy : Int32} {n : Nat} {qp qm ql qv qc qe sw : Nat → Int32}
theorem li_n (h : kv_li lm lp lr lq kc kh fo kl kp dy n qp qm ql qv qc qe sw) : n ≤ 12 := Nat.le_trans h.1.1 (by decide)
theorem li_qp (h : kv_li lm lp lr lq kc kh fo kl kp dy n qp qm ql qv qc qe sw) : ∀ i, i < n → kv_iv (qp i) 0 3 = true := fun i hi => by
  rcases (h.2.2.2.2.2.2.2 i hi).2.2.2.2.2.2.1 with e | e
  · rw [e]; decide
  · rw [e]; decide
theorem li_qc (h : kv_li lm lp lr lq kc kh fo kl kp dy n qp qm ql qv qc qe sw) : ∀ i, i < n → 0 ≤ qc i ∧ qc i ≤ 500 := fun i hi => ⟨(h.2.2.2.2.2.2.2 i hi).2.2.2.2.2.2.2.2.1, (h.2.2.2.2.2.2.2 i hi).2.2.2.2.2.2.2.2.2.2.2.1⟩
theorem li_kp (h : kv_li lm lp lr lq kc kh fo kl kp dy n qp qm ql qv qc qe sw) {p : Nat} (hp : p < 2) : 0 ≤ kp p ∧ kp p ≤ 1000 := (h.2.2.2.2.2.2.1 p hp).2.2.2.2
/-- another row of machines, other hosts -/
theorem li_Pm {lm' hs : Nat → Int32} (h : kv_li lm lp lr lq kc kh fo kl kp dy n qp qm ql qv qc qe sw) {p : Nat} (hp : p < 2) (hM : ∀ i, i < 5 → lm' (4 * i) = kc i ∧ lm' (4 * i + 1) = hs i ∧ -1 ≤ hs i ∧ hs i ≤ 4) (hF : ∀ i, i < 5 → lm' (4 * i + 2 + p) = fo i p) : u_P lm' lp lr kc fo kp qp qm qv qc hs n p :=
  u_Pg h.1.1 hp hM h.2.2.1 hF (fun i a b => h.2.2.2.2.2.1 i p a b hp) ⟨(h.2.2.2.2.2.2.1 p hp).2.1, li_kp h hp⟩ (fun i hi => ⟨(h.2.2.2.2.2.2.2 i hi).1, (h.2.2.2.2.2.2.2 i hi).2.1, (h.2.2.2.2.2.2.2 i hi).2.2.1, (h.2.2.2.2.2.2.2 i hi).2.2.2.2.1, (h.2.2.2.2.2.2.2 i hi).2.2.2.2.2.2.2.1, li_qc h i hi⟩)
theorem li_P (h : kv_li lm lp lr lq kc kh fo kl kp dy n qp qm ql qv qc qe sw) {p : Nat} (hp : p < 2) : u_P lm lp lr kc fo kp qp qm qv qc kh n p := li_Pm h hp h.2.1 (fun i hi => h.2.2.2.2.1 i p hi hp)
/-- another count of one right -/
theorem li_Pr {lr' : Nat → Int32} (h : kv_li lm lp lr lq kc kh fo kl kp dy n qp qm ql qv qc qe sw) {p r x : Nat} (hp : p < 2) (hr : r < n) (hx : x ≤ 500) (h1 : ∀ j, j ≠ 6 * r + 2 → lr' j = lr j) (h2 : lr' (6 * r + 2) = nI x) : u_P lm lp lr' kc fo kp qp qm qv (upd qc r (nI x)) kh n p :=
  u_Pg h.1.1 hp h.2.1 h.2.2.1 (fun i hi => h.2.2.2.2.1 i p hi hp) (fun i a b => h.2.2.2.2.2.1 i p a b hp) ⟨(h.2.2.2.2.2.2.1 p hp).2.1, li_kp h hp⟩ (fun i hi => by
    obtain ⟨a1, a2, a3, a4, a5, a6, a7, a8, a9⟩ := h.2.2.2.2.2.2.2 i hi
    refine ⟨(h1 _ (by omega)).trans a1, (h1 _ (by omega)).trans a2, ?_, (h1 _ (by omega)).trans a5, a8, ?_⟩
    · unfold upd
      by_cases e : i = r
      · rw [if_pos e, e, h2]
      · rw [if_neg e, h1 _ (by omega), a3]
    · unfold upd
      by_cases e : i = r
      · rw [if_pos e]
        exact ⟨nI_pos' (by omega), nI_le (b := 500) hx (by decide)⟩
      · rw [if_neg e]
        exact li_qc h i hi)
theorem li_q {lq' : Nat → Int32} (h : kv_li lm lp lr lq kc kh fo kl kp dy n qp qm ql qv qc qe sw) (h1 : ∀ j, j ≠ 2 → lq' j = lq j) : kv_li lm lp lr lq' kc kh fo kl kp dy n qp qm ql qv qc qe sw := by
  obtain ⟨⟨a1, a2, a3, a4⟩, hr⟩ := h
  exact ⟨⟨a1, (h1 0 (by decide)).trans a2, (h1 1 (by decide)).trans a3, a4⟩, hr⟩
theorem li_s {sw' : Nat → Int32} (h : kv_li lm lp lr lq kc kh fo kl kp dy n qp qm ql qv qc qe sw) (h1 : sw' 0 = 0) : kv_li lm lp lr lq kc kh fo kl kp dy n qp qm ql qv qc qe sw' := by
  obtain ⟨⟨a1, a2, a3, a4⟩, hr⟩ := h
  exact ⟨⟨a1, a2, a3, h1⟩, hr⟩
end LI
theorem u_lg {lm lp lr : Nat → Int32} {kc : Nat → Int32} {fo : Nat → Nat → Int32} {kp qp qm qv qc hs : Nat → Int32} {n p : Nat} (h : u_P lm lp lr kc fo kp qp qm qv qc hs n p) (lq : Nat → Int32) (h1 : lq 1 = nI n) : ∃ lq', pf_L_gap lm lp lr (nI p) lq = some (nI (kv_Wk kc fo kp qp qm qv qc hs n p), lq') ∧ lq' 2 = nI (kv_Lk kc fo kp qp qm qv qc hs n p) ∧ ∀ j, j ≠ 2 → lq' j = lq j :=
  u_gap lm lp lr kc fo kp qp qm qv qc hs n p h lq h1 (kv_okk kc fo qp qm qv qc hs n p) (kv_Lk kc fo kp qp qm qv qc hs n p) (fun S _ => kv_okk_i kc fo qp qm qv qc hs n p S) rfl
theorem kv_Wk_lt {kc : Nat → Int32} {fo : Nat → Nat → Int32} {kp : Nat → Int32} (qp qm qv qc hs : Nat → Int32) {n p : Nat} (hK : ∀ i, i < 8 → 1 ≤ kc i ∧ kc i ≤ 64) (hq : 0 ≤ kp p ∧ kp p ≤ 1000) : kv_Wk kc fo kp qp qm qv qc hs n p ≤ 512000 := by
  have := kv_S_le (U := kv_Lk kc fo kp qp qm qv qc hs n p) (fun j hj => (kv_wNs (fo := fo) (hK j hj).1 (hK j hj).2 hq.1 hq.2).2) 8 (Nat.le_refl 8)
  unfold kv_Wk
  omega
theorem kv_upd2 {f : Nat → Int32} {k : Nat} {a b c : Int32} (h : f k = c) : upd (upd (upd f k a) k b) k c = f := by
  funext j
  unfold upd
  by_cases e : j = k
  · rw [if_pos e, e, h]
  · rw [if_neg e, if_neg e, if_neg e]
theorem kv_upd1 {f : Nat → Int32} {k : Nat} {a c : Int32} (h : f k = c) : upd (upd f k a) k c = f := by
  funext j
  unfold upd
  by_cases e : j = k
  · rw [if_pos e, e, h]
  · rw [if_neg e, if_neg e]
set_option maxHeartbeats 1000000 in
theorem u_spare {lm lp lr lq kc kh : Nat → Int32} {fo : Nat → Nat → Int32} {kl kp : Nat → Int32} {dy : Int32} {n : Nat} {qp qm ql qv qc qe sw : Nat → Int32} (h : kv_li lm lp lr lq kc kh fo kl kp dy n qp qm ql qv qc qe sw) {r : Nat} (hr : r < n) (mt mv : Nat → Int32) (hv : Int32) (tk : Nat → Int32) : ∃ (lq' mt' mv' sw' : Nat → Int32) (hv' : Int32) (tk' : Nat → Int32), pf_L_spare lm lp kc kh fo kp n qp qm qv qc (nI r) lr lq mt mv sw hv tk = some (1, lr, lq', mt', mv', sw', hv', tk') ∧ (∀ j, j ≠ 2 → lq' j = lq j) ∧ sw' 0 = 0 := by
  obtain ⟨a1, a2, a3, a4, a5, a6, a7, a8, a9, a10, a11, a12, a13⟩ := h.2.2.2.2.2.2.2 r hr
  have hn10 := h.1.1
  obtain ⟨p, hp, hqr⟩ : ∃ p, p < 2 ∧ qp r = nI p := by
    rcases a7 with e | e
    · exact ⟨0, by decide, e⟩
    · exact ⟨1, by decide, e⟩
  have hq := li_kp h hp
  obtain ⟨M, mt', mv', sw', hv', tk', m1, m2, m3, m4⟩ := n_spare (qm := qm) (qv := qv) (kh := kh) (fo := fo) r n p (li_n h) hr (by omega) hqr (li_qp h) (li_qc h) h.2.2.1 hq mt mv sw hv tk h.1.2.2.2
  obtain ⟨e1, e2⟩ := kv_cntN a9 a12
  generalize (qc r).toInt.toNat = all at e1 e2 m1 m2 m4
  rw [pk_sub m1] at m2
  obtain ⟨q1, g1, g2, g3⟩ := u_lg (li_P h hp) lq h.1.2.2.1
  have hW : ∀ qc', kv_Wk kc fo kp qp qm qv qc' kh n p ≤ 512000 := fun qc' => kv_Wk_lt qp qm qv qc' kh h.2.2.1 hq
  have hb := hW qc
  -- the count that the gap needs
  have hM2 := (m4 M m1).2.mpr (Nat.le_refl M)
  have hbM := hW (upd qc r (nI M))
  obtain ⟨q2, g4, g5, g6⟩ := u_lg (li_Pr (lr' := upd lr (6 * r + 2) (nI M)) h hp hr (by omega) (fun j hj => if_neg hj) (if_pos rfl)) q1 ((g3 1 (by decide)).trans h.1.2.2.1)
  rw [hM2] at g4
  have k0 : upd lr (6 * r + 2) (nI M) (6 * r) = nI p := (if_neg (by omega)).trans (a1.trans hqr)
  have hg2 : ∀ {α : Type} (z : Option α), kv_G (nI (6 * r + 2)) 60 z = z := fun z => kv_gN (by omega) (by omega) z
  have hg0 : ∀ {α : Type} (z : Option α), kv_G (nI (6 * r)) 60 z = z := fun z => kv_gN (by omega) (by omega) z
  have hc2 : (nI (6 * r + 2)).toNatClampNeg = 6 * r + 2 := nI_clamp (by omega)
  have hc0 : (nI (6 * r)).toNatClampNeg = 6 * r := nI_clamp (by omega)
  have s156 : ∀ (lr1 lq1 : Nat → Int32), pf_L_spare_156 lm lp kc kh fo kp n qp qm qv qc (nI r) (nI all) 1 lr1 lq1 mt' mv' sw' hv' tk' = some (1, upd lr1 (6 * r + 2) (nI all), lq1, mt', mv', sw', hv', tk') := by
    intro lr1 lq1
    unfold pf_L_spare_156
    rw [kv_6i, kv_a2, hg2, kv_T_s, hc2]
    rfl
  have hend : ∃ lq', pf_L_spare_100 lm lp kc kh fo kp n qp qm qv qc (nI r) (nI (all - M)) (nI all) (nI (kv_Wk kc fo kp qp qm qv qc kh n p)) 1 (upd lr (6 * r + 2) (nI M)) q2 mt' mv' sw' hv' tk' = some (1, lr, lq', mt', mv', sw', hv', tk') ∧ ∀ j, j ≠ 2 → lq' j = lq j := by
    unfold pf_L_spare_100
    rw [kv_6i, kv_a2, hg2, kv_T_s, hc2, if_neg n10]
    by_cases c : nI (all - M) = nI all
    · rw [if_pos c, s156, kv_upd2 (a3.trans e1)]
      exact ⟨q2, rfl, fun j hj => (g6 j hj).trans (g3 j hj)⟩
    · have hM0 : 0 < M := by
        rcases Nat.eq_zero_or_pos M with z | z
        · exact absurd (by rw [z, Nat.sub_zero]) c
        · exact z
      have em : nI all - nI (all - M) - 1 = nI (M - 1) := by
        rw [pk_sub (by omega), show all - (all - M) = M by omega, show (1 : Int32) = nI 1 from rfl, pk_sub (by omega)]
      obtain ⟨q3, y1, y2, y3⟩ := u_lg (li_Pr (lr' := upd (upd lr (6 * r + 2) (nI M)) (6 * r + 2) (nI (M - 1))) (x := M - 1) h hp hr (by omega) (fun j hj => (if_neg hj).trans (if_neg hj)) (if_pos rfl)) q2 ((g6 1 (by decide)).trans ((g3 1 (by decide)).trans h.1.2.2.1))
      have k1 : upd (upd lr (6 * r + 2) (nI M)) (6 * r + 2) (nI (M - 1)) (6 * r) = nI p := (if_neg (by omega)).trans k0
      have hlt : kv_Wk kc fo kp qp qm qv qc kh n p < kv_Wk kc fo kp qp qm qv (upd qc r (nI (M - 1))) kh n p := by
        obtain ⟨z1, z2⟩ := m4 (M - 1) (by omega)
        have z3 : ¬ kv_Wk kc fo kp qp qm qv (upd qc r (nI (M - 1))) kh n p = kv_Wk kc fo kp qp qm qv qc kh n p := fun q => by have := z2.mp q; omega
        omega
      have hb3 := hW (upd qc r (nI (M - 1)))
      rw [if_neg c, em, hg0, kv_T_s, hc0, k1, y1, kv_q2_s, if_neg (fun q => by have := (nI_leI (by omega) (by omega)).mp q; omega), s156, kv_upd2 (a3.trans e1)]
      exact ⟨q3, rfl, fun j hj => (y3 j hj).trans ((g6 j hj).trans (g3 j hj))⟩
  obtain ⟨lq', x1, x2⟩ := hend
  refine ⟨lq', mt', mv', sw', hv', tk', ?_, x2, m3⟩
  have h53 : pf_L_spare_53 lm lp kc kh fo kp n qp qm qv qc (nI r) (nI (all - M)) (nI all) (nI (kv_Wk kc fo kp qp qm qv qc kh n p)) 1 lr q1 mt' mv' sw' hv' tk' = some (1, lr, lq', mt', mv', sw', hv', tk') := by
    unfold pf_L_spare_53
    rw [kv_6i, kv_a2, hg2, kv_T_s, hc2, if_neg n10, pk_sub (show all - M ≤ all by omega), show all - (all - M) = M by omega, hg0, kv_T_s, hc0, k0, g4, kv_q2_s, if_pos rfl]
    exact x1
  unfold pf_L_spare
  rw [m2, kv_q6_s, kv_6i, kv_a2, hg2, kv_T_s, hc2, a3, e1, hg0, kv_T_s, hc0, a1, hqr, g1, kv_q2_s, if_neg (fun q => by rw [Int32.lt_iff_toInt_lt, nI_toInt (by omega), kv_i0] at q; omega), if_neg (fun q => by have := (nI_ltI (by omega) (by omega)).mp q; omega)]
  exact h53
end KVL44
