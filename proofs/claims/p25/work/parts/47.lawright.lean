section KVL47
theorem kv_q9_s {A B C E F G I J K β : Type} (a : A) (b : B) (c : C) (d : E) (e : F) (f : G) (g : I) (h : J) (i : K) (k : A → B → C → E → F → G → I → J → K → Option β) : kv_q9 (some (a, b, c, d, e, f, g, h, i)) k = k a b c d e f g h i := rfl
theorem kv_neg12 : ∀ c, c < 13 → (-500 : Int32) ≤ -(nI c) ∧ -(nI c) ≤ 500 := by decide +kernel
theorem kv_pos12 : ∀ c, c < 13 → (-500 : Int32) ≤ nI c ∧ nI c ≤ 500 := by decide +kernel
theorem kv_ivle {x a b : Int32} (h1 : a ≤ x) (h2 : x ≤ b) : kv_iv x a b = true := kv_ivT.mpr ⟨Int32.le_iff_toInt_le.mp h1, Int32.le_iff_toInt_le.mp h2⟩
theorem u_rA {n r : Nat} (hn : n ≤ 12) (h : r < n) : pf_X2_rightAt n (nI r) = some (.inl r) := by
  rw [q_rA hn, if_pos (by rw [kv_ivT, nI_toInt (by omega), kv_i0, kv_nIm hn]; omega), nI_clamp (by omega)]
theorem u_bcall (kl : Nat → Int32) (dy mo : Int32) (n : Nat) (qp qm ql qv qc qe : Nat → Int32) {a b c d : Nat} (hn : n < 12) (ha : a < 4) (hb : b < 2) (hc1 : 1 ≤ c) (hc : c ≤ 500) (hd : d ≤ 1000) : pf_L_calls_2 kl dy (nI a) (nI b) (nI c) (nI d) mo n qp qm ql qv qc qe = some (nI (n + 1) - 1, mo + 1, n + 1, upd qp n (nI a), upd qm n (nI b), upd ql n ((dy + nI d) - 1), upd qv n (kl a), upd qc n (nI c), upd qe n 0) := by
  have c1 := kv_ivP ha
  have hX : pf_X2_buy kl dy (nI a) (nI b) (nI c) (nI d) mo n qp qm ql qv qc qe = some (.inl (nI (n + 1) - 1, mo + 1, n + 1, upd qp n (nI a), upd qm n (nI b), upd ql n ((dy + nI d) - 1), upd qv n (kl a), upd qc n (nI c), upd qe n 0)) := by
    have i1 : kv_iv (nI b) 0 1 = true := kv_ivle (nI_pos' (by omega)) (nI_le (b := 1) (by omega) (by decide))
    have i2 : kv_iv (nI c) 1 500 = true := kv_ivle (nI_le (a := 1) hc1 (by omega)) (nI_le (b := 500) hc (by decide))
    have i3 : kv_iv (nI d) 0 1000 = true := kv_ivle (nI_pos' (by omega)) (nI_le (b := 1000) hd (by decide))
    unfold pf_X2_buy
    rw [q_P, if_pos c1, kv_x0_s, q_rg, if_pos i1, kv_x0_s, q_rg, if_pos i2, kv_x0_s, q_rg, if_pos i3, kv_x0_s, q_room (by omega), if_pos hn, kv_x0_s, q_add kl _ _ _ _ mo n qp qm ql qv qc qe hn c1, nI_clamp (by omega)]
    rfl
  unfold pf_L_calls_2
  rw [hX]
  rfl
theorem u_ucall (kl : Nat → Int32) (mo : Int32) (n : Nat) (qp qm ql qv qc qe : Nat → Int32) {k p : Nat} {x : Int32} (hn : n < 12) (hk : k < n) (hp : p < 4) (hq : qp k = nI p) (hx1 : 1 ≤ x) (hx : x ≤ 500) : pf_L_calls_3 kl (nI k) x 0 0 mo n qp qm ql qv qc qe = if x ≤ qc k ∧ ¬ qv k = kl p then some (nI (n + 1) - 1, mo + 1, n + 1, upd qp n (qp k), upd qm n (qm k), upd ql n (ql k), upd qv n (kl p), upd (upd qc k (qc k - x)) n x, upd qe n 0) else some (-2003, mo, n, qp, qm, ql, qv, qc, qe) := by
  have c1 := kv_ivP hp
  have hc : (nI p).toNatClampNeg = p := nI_clamp (by omega)
  have pre : pf_X2_upgrade kl (nI k) x mo n qp qm ql qv qc qe = kv_x0 (pf_X2_requireCount n qc k x) (if qv k = kl p then some (.inr 3) else kv_q9 (pf_X2_addRight kl (nI p) (qm k) x (ql k) mo n qp qm ql qv (upd qc k (qc k - x)) qe) (fun r_73 o0_73 o1_73 o2_73 o3_73 o4_73 o5_73 o6_73 o7_73 => some (.inl (r_73, o0_73, o1_73, o2_73, o3_73, o4_73, o5_73, o6_73, o7_73)))) := by
    unfold pf_X2_upgrade
    rw [u_rA (by omega) hk, kv_x1_s, q_rg, if_pos (kv_ivle hx1 hx), kv_x0_s, hq, kv_g4 c1, kv_T_s, hc, q_room (by omega), if_pos hn, kv_x0_s, kv_T_s, kv_T_s]
  unfold pf_L_calls_3
  rw [pre]
  unfold pf_X2_requireCount
  by_cases c2 : x ≤ qc k
  · by_cases c3 : qv k = kl p
    · rw [if_pos c2, kv_x0_s, if_pos c3, if_neg (fun q => q.2 c3)]
      rfl
    · rw [if_pos c2, kv_x0_s, if_neg c3, if_pos ⟨c2, c3⟩, q_add kl _ _ _ _ mo n qp qm ql qv _ qe hn c1, hc, hq]
      rfl
  · rw [if_neg c2, if_neg (show ¬ (x ≤ qc k ∧ ¬ qv k = kl p) from fun q => c2 q.1)]
    rfl
theorem u_lcall (n : Nat) (qc qe : Nat → Int32) {k : Nat} {x : Int32} (hn : n ≤ 12) (hk : k < n) (hx1 : -500 ≤ x) (hx : x ≤ 500) : pf_L_calls_4 n (nI k) x 0 0 qc qe = if x ≤ qc k ∧ 0 ≤ qe k + x then some (qe k + x, upd qc k (qc k - x), upd qe k (qe k + x)) else some (-2003, qc, qe) := by
  unfold pf_L_calls_4 pf_X2_lend
  rw [u_rA hn hk, kv_x1_s, q_rg, if_pos (kv_ivle hx1 hx), kv_x0_s]
  unfold pf_X2_requireCount
  by_cases c2 : x ≤ qc k
  · by_cases c3 : 0 ≤ qe k + x
    · rw [if_pos c2, kv_x0_s, if_pos c3, if_pos ⟨c2, c3⟩, kv_T_s, kv_T_s, kv_T_s, kv_T_s, show upd qe k (qe k + x) k = qe k + x from if_pos rfl]
      rfl
    · rw [if_pos c2, kv_x0_s, if_neg c3, if_neg (fun q => c3 q.2)]
      rfl
  · rw [if_neg c2, if_neg (show ¬ (x ≤ qc k ∧ 0 ≤ qe k + x) from fun q => c2 q.1)]
    rfl
section RT
variable {lm lp lr lq kc kh : Nat → Int32} {fo : Nat → Nat → Int32} {kl kp : Nat → Int32} {dy : Int32} {n : Nat} {qp qm ql qv qc qe sw : Nat → Int32}
def u_rt (lm lp kc kh : Nat → Int32) (fo : Nat → Nat → Int32) (kl kp : Nat → Int32) (dy : Int32) (sw : Nat → Int32) (X : Option (Int32 × (Nat → Int32) × (Nat → Int32) × Int32 × Nat × (Nat → Int32) × (Nat → Int32) × (Nat → Int32) × (Nat → Int32) × (Nat → Int32) × (Nat → Int32))) : Prop := ∃ (lr' lq' : Nat → Int32) (mo' : Int32) (n' : Nat) (qp' qm' ql' qv' qc' qe' : Nat → Int32), X = some (1, lr', lq', mo', n', qp', qm', ql', qv', qc', qe') ∧ kv_li lm lp lr' lq' kc kh fo kl kp dy n' qp' qm' ql' qv' qc' qe' sw
theorem li_R (h : kv_li lm lp lr lq kc kh fo kl kp dy n qp qm ql qv qc qe sw) {lr' lq' : Nat → Int32} {n' : Nat} {qp' qm' ql' qv' qc' qe' : Nat → Int32} (h1 : n' ≤ 10) (h2 : lq' 0 = dy) (h3 : lq' 1 = nI n') (hR : ∀ i, i < n' → lr' (6 * i) = qp' i ∧ lr' (6 * i + 1) = qm' i ∧ lr' (6 * i + 2) = qc' i ∧ lr' (6 * i + 3) = qe' i ∧ lr' (6 * i + 4) = qv' i ∧ lr' (6 * i + 5) = ql' i ∧ (qp' i = 0 ∨ qp' i = 1) ∧ (qm' i = 0 ∨ qm' i = 1) ∧ 0 ≤ qc' i ∧ 0 ≤ qe' i ∧ qc' i + qe' i ≤ 500 ∧ qc' i ≤ 500 ∧ qe' i ≤ 500 ∧ qv' i ≤ kl (qp' i).toNatClampNeg) : kv_li lm lp lr' lq' kc kh fo kl kp dy n' qp' qm' ql' qv' qc' qe' sw :=
  ⟨⟨h1, h2, h3, h.1.2.2.2⟩, h.2.1, h.2.2.1, h.2.2.2.1, h.2.2.2.2.1, h.2.2.2.2.2.1, h.2.2.2.2.2.2.1, hR⟩
theorem kv_upo {f : Nat → Int32} {a : Nat} {x : Int32} {j : Nat} (h : j ≠ a) : upd f a x j = f j := if_neg h
theorem kv_ups {f : Nat → Int32} {a : Nat} {x : Int32} : upd f a x a = x := if_pos rfl
/-- the rights with one right more -/
theorem li_new (h : kv_li lm lp lr lq kc kh fo kl kp dy n qp qm ql qv qc qe sw) (hn : n < 10) {lr' lq' : Nat → Int32} {qc1 : Nat → Int32} {a b c e f : Int32} (h2 : lq' 0 = dy) (h3 : lq' 1 = nI (n + 1)) (hlo : ∀ i, i < n → lr' (6 * i) = lr (6 * i) ∧ lr' (6 * i + 1) = lr (6 * i + 1) ∧ lr' (6 * i + 2) = qc1 i ∧ lr' (6 * i + 3) = lr (6 * i + 3) ∧ lr' (6 * i + 4) = lr (6 * i + 4) ∧ lr' (6 * i + 5) = lr (6 * i + 5) ∧ 0 ≤ qc1 i ∧ qc1 i + qe i ≤ 500 ∧ qc1 i ≤ 500) (hhi : lr' (6 * n) = a ∧ lr' (6 * n + 1) = b ∧ lr' (6 * n + 2) = c ∧ lr' (6 * n + 3) = 0 ∧ lr' (6 * n + 4) = e ∧ lr' (6 * n + 5) = f) (ha : a = 0 ∨ a = 1) (hb : b = 0 ∨ b = 1) (hc1 : 0 ≤ c) (hc : c ≤ 500) (he : e ≤ kl a.toNatClampNeg) : kv_li lm lp lr' lq' kc kh fo kl kp dy (n + 1) (upd qp n a) (upd qm n b) (upd ql n f) (upd qv n e) (upd qc1 n c) (upd qe n 0) sw := by
  refine li_R h (by omega) h2 h3 (fun i hi => ?_)
  by_cases q : i = n
  · subst q
    obtain ⟨h4, h5, h6, h7, h8, h9⟩ := hhi
    rw [kv_ups, kv_ups, kv_ups, kv_ups, kv_ups, kv_ups]
    refine ⟨h4, h5, h6, h7, h8, h9, ha, hb, hc1, Int32.le_refl 0, ?_, hc, by decide, he⟩
    rw [Int32.add_zero]
    exact hc
  · obtain ⟨a1, a2, a3, a4, a5, a6, a7, a8, a9, a10, a11, a12, a13, a14⟩ := h.2.2.2.2.2.2.2 i (by omega)
    obtain ⟨b1, b2, b3, b4, b5, b6, b7, b8, b9⟩ := hlo i (by omega)
    rw [kv_upo q, kv_upo q, kv_upo q, kv_upo q, kv_upo q, kv_upo q]
    exact ⟨b1.trans a1, b2.trans a2, b3, b4.trans a4, b5.trans a5, b6.trans a6, a7, a8, b7, a10, b8, b9, a13, a14⟩
theorem kv_01 {a : Nat} (h : a < 2) : nI a = 0 ∨ nI a = 1 := by
  rcases (show a = 0 ∨ a = 1 by omega) with e | e
  · exact Or.inl (by rw [e, nI_0])
  · exact Or.inr (by rw [e]; rfl)
theorem u_buy (h : kv_li lm lp lr lq kc kh fo kl kp dy n qp qm ql qv qc qe sw) (mo p1 p2 v z4 : Int32) {a b m : Nat} (hn : n < 10) (ha : a < 2) (hb : b < 2) (hz : z4 = nI m) (hm0 : 0 < m) (hm : m ≤ 30) : u_rt lm lp kc kh fo kl kp dy sw (pf_L_rights_100 lp kl dy p1 p2 (nI (6 * n)) (nI (6 * n + 2)) 1 v z4 (upd (upd lr (6 * n) (nI a)) (6 * n + 1) (nI b)) lq mo n qp qm ql qv qc qe) := by
  obtain ⟨c, hc, ec⟩ := u_lowL v z4 hz hm0 (by omega)
  obtain ⟨d, hd, ed⟩ := u_lowL (p2 >>> (6 &&& 31)) 40 (k := 40) rfl (by decide) (by decide)
  have hg : ∀ {α : Type} {x : Nat} (_ : x < 60) (z : Option α), kv_G (nI x) 60 z = z := fun hx z => kv_gN hx (by omega) z
  have hk : ∀ {x : Nat} (_ : x < 60), (nI x).toNatClampNeg = x := fun hx => nI_clamp (by omega)
  have b1 := (h.2.2.2.2.2.2.1 a ha).1
  have hcall := u_bcall kl dy mo n qp qm ql qv qc qe (a := a) (b := b) (c := 1 + c) (d := d) (by omega) (by omega) hb (by omega) (by omega) (by omega)
  -- the row with the new right
  have w0 : upd (upd (upd (upd lr (6 * n) (nI a)) (6 * n + 1) (nI b)) (6 * n + 2) (nI (1 + c))) (6 * n + 3) 0 (6 * n) = nI a := by rw [kv_upo (by omega), kv_upo (by omega), kv_upo (by omega), kv_ups]
  unfold pf_L_rights_100
  rw [ec, kv_q1_s, hg (show 6 * n + 2 < 60 by omega), kv_T_s, hk (show 6 * n + 2 < 60 by omega), kv_1a, kv_a3, hg (show 6 * n + 3 < 60 by omega), kv_T_s, hk (show 6 * n + 3 < 60 by omega), hg (show 6 * n < 60 by omega), kv_T_s, hk (show 6 * n < 60 by omega), w0, kv_2i, kv_gN (show 2 * a < 4 by omega) (by omega), kv_T_s, nI_clamp (show 2 * a < 2 ^ 31 by omega), b1, kv_a4, hg (show 6 * n + 4 < 60 by omega), kv_T_s, hk (show 6 * n + 4 < 60 by omega), ed, kv_q1_s, g3_0, kv_T_s, c_0, h.1.2.1, kv_a5, hg (show 6 * n + 5 < 60 by omega), kv_T_s, hk (show 6 * n + 5 < 60 by omega), g3_1, kv_T_s, c_1, h.1.2.2.1, g3_1, kv_T_s, nI_1, hg (show 6 * n < 60 by omega), kv_T_s, nI_1, hg (show 6 * n + 1 < 60 by omega), kv_T_s, hk (show 6 * n + 1 < 60 by omega), kv_a2, hg (show 6 * n + 2 < 60 by omega), kv_T_s]
  generalize hlr : upd (upd (upd (upd (upd (upd lr (6 * n) (nI a)) (6 * n + 1) (nI b)) (6 * n + 2) (nI (1 + c))) (6 * n + 3) 0) (6 * n + 4) (kl a)) (6 * n + 5) ((dy + nI d) - 1) = lr'
  have l0 : lr' (6 * n) = nI a := by rw [← hlr, kv_upo (by omega), kv_upo (by omega)]; exact w0
  have l1 : lr' (6 * n + 1) = nI b := by rw [← hlr, kv_upo (by omega), kv_upo (by omega), kv_upo (by omega), kv_upo (by omega), kv_ups]
  have l2 : lr' (6 * n + 2) = nI (1 + c) := by rw [← hlr, kv_upo (by omega), kv_upo (by omega), kv_upo (by omega), kv_ups]
  have l3 : lr' (6 * n + 3) = 0 := by rw [← hlr, kv_upo (by omega), kv_upo (by omega), kv_ups]
  have l4 : lr' (6 * n + 4) = kl a := by rw [← hlr, kv_upo (by omega), kv_ups]
  have l5 : lr' (6 * n + 5) = (dy + nI d) - 1 := by rw [← hlr, kv_ups]
  have lo : ∀ j, j < 6 * n → lr' j = lr j := fun j hj => by rw [← hlr, kv_upo (by omega), kv_upo (by omega), kv_upo (by omega), kv_upo (by omega), kv_upo (by omega), kv_upo (by omega)]
  rw [l0, l1, hk (show 6 * n + 2 < 60 by omega), l2, hcall, kv_q9_s, g3_1, kv_T_s, kv_ups, if_pos rfl]
  refine ⟨lr', upd lq 1 (nI (n + 1)), mo + 1, n + 1, _, _, _, _, _, _, rfl, ?_⟩
  refine li_new h hn ((kv_upo (by decide)).trans h.1.2.1) kv_ups (fun i hi => ?_) ⟨l0, l1, l2, l3, l4, l5⟩ (kv_01 ha) (kv_01 hb) (nI_pos' (by omega)) (nI_le (b := 500) (by omega) (by decide)) ?_
  · obtain ⟨a1, a2, a3, a4, a5, a6, a7, a8, a9, a10, a11, a12, a13, a14⟩ := h.2.2.2.2.2.2.2 i hi
    exact ⟨lo _ (by omega), lo _ (by omega), (lo _ (by omega)).trans a3, lo _ (by omega), lo _ (by omega), lo _ (by omega), a9, a11, a12⟩
  · rw [nI_clamp (by omega)]
    exact Int32.le_refl _
theorem u_up398 (h : kv_li lm lp lr lq kc kh fo kl kp dy n qp qm ql qv qc qe sw) (mo p1 p2 : Int32) {k p : Nat} {x : Int32} (hn : n < 10) (hk : k < n) (hp : p < 2) (hq : qp k = nI p) (hx1 : 1 ≤ x) (hx : x ≤ 500) (hno : ¬ (x ≤ qc k ∧ ¬ qv k = kl p)) : u_rt lm lp kc kh fo kl kp dy sw (pf_L_rights_398 lp kl dy p1 p2 (nI k) x (-2003) lr lq mo n qp qm ql qv qc qe) := by
  unfold pf_L_rights_398
  rw [u_ucall kl mo n qp qm ql qv qc qe (by omega) hk (show p < 4 by omega) hq hx1 hx, if_neg hno]
  exact ⟨lr, lq, mo, n, qp, qm, ql, qv, qc, qe, rfl, h⟩
theorem u_up1 (h : kv_li lm lp lr lq kc kh fo kl kp dy n qp qm ql qv qc qe sw) (mo p1 p2 : Int32) {k p : Nat} {x : Int32} (hn : n < 10) (hk : k < n) (hp : p < 2) (hq : qp k = nI p) (hx1 : 1 ≤ x) (hx : x ≤ 500) (hy1 : x ≤ qc k) (hy2 : ¬ qv k = kl p) : u_rt lm lp kc kh fo kl kp dy sw (pf_L_rights_291 lp kl dy p1 p2 (nI k) x (nI (6 * k)) 1 (nI n) lr lq mo n qp qm ql qv qc qe) := by
  have hg : ∀ {α : Type} {x : Nat} (_ : x < 60) (z : Option α), kv_G (nI x) 60 z = z := fun hx z => kv_gN hx (by omega) z
  have hc : ∀ {x : Nat} (_ : x < 60), (nI x).toNatClampNeg = x := fun hx => nI_clamp (by omega)
  obtain ⟨a1, a2, a3, a4, a5, a6, a7, a8, a9, a10, a11, a12, a13, a14⟩ := h.2.2.2.2.2.2.2 k hk
  have b1 := (h.2.2.2.2.2.2.1 p hp).1
  have hcall := u_ucall kl mo n qp qm ql qv qc qe (by omega) hk (show p < 4 by omega) hq hx1 hx
  rw [if_pos ⟨hy1, hy2⟩] at hcall
  have v0 : upd lr (6 * k + 2) (qc k - x) (6 * k) = nI p := by rw [kv_upo (by omega), a1, hq]
  have v1 : upd (upd lr (6 * k + 2) (qc k - x)) (6 * n) (nI p) (6 * k + 1) = qm k := by rw [kv_upo (by omega), kv_upo (by omega), a2]
  have v2 : upd (upd (upd (upd (upd lr (6 * k + 2) (qc k - x)) (6 * n) (nI p)) (6 * n + 1) (qm k)) (6 * n + 2) x) (6 * n + 3) 0 (6 * k) = nI p := by rw [kv_upo (by omega), kv_upo (by omega), kv_upo (by omega), kv_upo (by omega)]; exact v0
  have v5 : upd (upd (upd (upd (upd (upd lr (6 * k + 2) (qc k - x)) (6 * n) (nI p)) (6 * n + 1) (qm k)) (6 * n + 2) x) (6 * n + 3) 0) (6 * n + 4) (kl p) (6 * k + 5) = ql k := by rw [kv_upo (by omega), kv_upo (by omega), kv_upo (by omega), kv_upo (by omega), kv_upo (by omega), kv_upo (by omega), a6]
  unfold pf_L_rights_291
  rw [if_neg n10, g3_1, kv_T_s, c_1, h.1.2.2.1, kv_T_s, kv_6i, kv_T_s, kv_a2, hg (show 6 * k + 2 < 60 by omega), kv_T_s, hc (show 6 * k + 2 < 60 by omega), a3, hg (show 6 * k + 2 < 60 by omega), kv_T_s, hg (show 6 * k < 60 by omega), kv_T_s, hc (show 6 * k < 60 by omega), v0, hg (show 6 * n < 60 by omega), kv_T_s, hc (show 6 * n < 60 by omega), nI_1, hg (show 6 * k + 1 < 60 by omega), kv_T_s, hc (show 6 * k + 1 < 60 by omega), v1, nI_1, hg (show 6 * n + 1 < 60 by omega), kv_T_s, hc (show 6 * n + 1 < 60 by omega), kv_a2, hg (show 6 * n + 2 < 60 by omega), kv_T_s, hc (show 6 * n + 2 < 60 by omega), kv_a3, hg (show 6 * n + 3 < 60 by omega), kv_T_s, hc (show 6 * n + 3 < 60 by omega), hg (show 6 * k < 60 by omega), kv_T_s, v2, kv_2i, kv_gN (show 2 * p < 4 by omega) (by omega), kv_T_s, nI_clamp (show 2 * p < 2 ^ 31 by omega), b1, kv_a4, hg (show 6 * n + 4 < 60 by omega), kv_T_s, hc (show 6 * n + 4 < 60 by omega), kv_a5, hg (show 6 * k + 5 < 60 by omega), kv_T_s, hc (show 6 * k + 5 < 60 by omega), v5, kv_a5, hg (show 6 * n + 5 < 60 by omega), kv_T_s, hc (show 6 * n + 5 < 60 by omega), g3_1, kv_T_s, g3_1, kv_T_s, nI_1]
  generalize hlr : upd (upd (upd (upd (upd (upd (upd lr (6 * k + 2) (qc k - x)) (6 * n) (nI p)) (6 * n + 1) (qm k)) (6 * n + 2) x) (6 * n + 3) 0) (6 * n + 4) (kl p)) (6 * n + 5) (ql k) = lr'
  have l0 : lr' (6 * n) = qp k := by rw [← hlr, kv_upo (by omega), kv_upo (by omega), kv_upo (by omega), kv_upo (by omega), kv_upo (by omega), kv_ups, hq]
  have l1 : lr' (6 * n + 1) = qm k := by rw [← hlr, kv_upo (by omega), kv_upo (by omega), kv_upo (by omega), kv_upo (by omega), kv_ups]
  have l2 : lr' (6 * n + 2) = x := by rw [← hlr, kv_upo (by omega), kv_upo (by omega), kv_upo (by omega), kv_ups]
  have l3 : lr' (6 * n + 3) = 0 := by rw [← hlr, kv_upo (by omega), kv_upo (by omega), kv_ups]
  have l4 : lr' (6 * n + 4) = kl p := by rw [← hlr, kv_upo (by omega), kv_ups]
  have l5 : lr' (6 * n + 5) = ql k := by rw [← hlr, kv_ups]
  have lo : ∀ j, j < 6 * n → j ≠ 6 * k + 2 → lr' j = lr j := fun j hj hj2 => by rw [← hlr, kv_upo (by omega), kv_upo (by omega), kv_upo (by omega), kv_upo (by omega), kv_upo (by omega), kv_upo (by omega), kv_upo hj2]
  have lk : lr' (6 * k + 2) = qc k - x := by rw [← hlr, kv_upo (by omega), kv_upo (by omega), kv_upo (by omega), kv_upo (by omega), kv_upo (by omega), kv_upo (by omega), kv_ups]
  unfold pf_L_rights_398
  rw [hcall]
  have e9 : nI (n + 1) - 1 = nI n := by rw [show (1 : Int32) = nI 1 from rfl, pk_sub (by omega)]; rfl
  show u_rt lm lp kc kh fo kl kp dy sw (if nI (n + 1) - 1 = nI n then _ else _)
  rw [if_pos e9]
  refine ⟨lr', upd lq 1 (nI (n + 1)), mo + 1, n + 1, _, _, _, _, _, _, rfl, ?_⟩
  have hx0 : 0 ≤ x := Int32.le_trans (by decide) hx1
  refine li_new (qc1 := upd qc k (qc k - x)) h hn ((kv_upo (by decide)).trans h.1.2.1) kv_ups (fun i hi => ?_) ⟨l0, l1, l2, l3, l4, l5⟩ a7 a8 hx0 hx ?_
  · obtain ⟨d1, d2, d3, d4, d5, d6, d7, d8, d9, d10, d11, d12, d13, d14⟩ := h.2.2.2.2.2.2.2 i hi
    refine ⟨lo _ (by omega) (by omega), lo _ (by omega) (by omega), ?_, lo _ (by omega) (by omega), lo _ (by omega) (by omega), lo _ (by omega) (by omega), ?_⟩
    · by_cases e : i = k
      · rw [e, kv_ups]; exact lk
      · rw [kv_upo e]; exact (lo _ (by omega) (by omega)).trans d3
    · by_cases e : i = k
      · rw [e, kv_ups]; exact kv_dec a9 a10 a11 a12 a13 hx0 hy1
      · rw [kv_upo e]; exact ⟨d9, d11, d12⟩
  · rw [hq, nI_clamp (by omega)]
    exact Int32.le_refl _
theorem u_lend (h : kv_li lm lp lr lq kc kh fo kl kp dy n qp qm ql qv qc qe sw) (mo p1 p2 : Int32) {k : Nat} {x : Int32} (hk : k < n) (hx1 : -500 ≤ x) (hx : x ≤ 500) : u_rt lm lp kc kh fo kl kp dy sw (pf_L_rights_439 lp kl dy p1 p2 (nI k) (nI (6 * k)) x lr lq mo n qp qm ql qv qc qe) := by
  have hn10 := h.1.1
  have hg : ∀ {α : Type} {x : Nat} (_ : x < 60) (z : Option α), kv_G (nI x) 60 z = z := fun hx z => kv_gN hx (by omega) z
  have hc : ∀ {x : Nat} (_ : x < 60), (nI x).toNatClampNeg = x := fun hx => nI_clamp (by omega)
  obtain ⟨a1, a2, a3, a4, a5, a6, a7, a8, a9, a10, a11, a12, a13, a14⟩ := h.2.2.2.2.2.2.2 k hk
  have hcall := u_lcall n qc qe (k := k) (x := x) (by omega) hk hx1 hx
  -- nothing is lent
  have no : ¬ (x ≤ qc k ∧ 0 ≤ qe k + x) → u_rt lm lp kc kh fo kl kp dy sw (pf_L_rights_471 lp kl dy p1 p2 (nI k) x (nI (6 * k)) 0 lr lq mo n qp qm ql qv qc qe) := by
    intro hno
    rw [if_neg hno] at hcall
    have v3 : upd lr (6 * k + 2) (qc k - 0) (6 * k + 3) = qe k := by rw [kv_upo (by omega), a4]
    have hs : upd (upd lr (6 * k + 2) (qc k - 0)) (6 * k + 3) (qe k + 0) = lr := by
      funext j
      rw [Int32.sub_zero, Int32.add_zero]
      unfold upd
      by_cases e : j = 6 * k + 3
      · rw [if_pos e, e, a4]
      · rw [if_neg e]
        by_cases e2 : j = 6 * k + 2
        · rw [if_pos e2, e2, a3]
        · rw [if_neg e2]
    unfold pf_L_rights_471 pf_L_rights_492 pf_L_rights_513 pf_L_rights_544
    rw [kv_T_s, kv_a2, hg (show 6 * k + 2 < 60 by omega), kv_T_s, hc (show 6 * k + 2 < 60 by omega), a3, if_pos rfl, hg (show 6 * k + 2 < 60 by omega), kv_T_s, kv_T_s, kv_a3, hg (show 6 * k + 3 < 60 by omega), kv_T_s, hc (show 6 * k + 3 < 60 by omega), v3, if_pos rfl, hg (show 6 * k + 3 < 60 by omega), kv_T_s, hcall, hs]
    exact ⟨lr, lq, mo, n, qp, qm, ql, qv, qc, qe, rfl, h⟩
  unfold pf_L_rights_439
  rw [kv_a2, hg (show 6 * k + 2 < 60 by omega), kv_T_s, hc (show 6 * k + 2 < 60 by omega), a3, kv_a3, hg (show 6 * k + 3 < 60 by omega), kv_T_s, hc (show 6 * k + 3 < 60 by omega), a4]
  by_cases c1 : qc k < x
  · rw [if_pos c1]
    exact no (fun q => absurd c1 (Int32.not_lt.mpr q.1))
  · rw [if_neg c1]
    by_cases c2 : qe k + x < 0
    · rw [if_pos c2]
      exact no (fun q => absurd c2 (Int32.not_lt.mpr q.2))
    · rw [if_neg c2]
      have y1 := Int32.not_lt.mp c1
      have y2 := Int32.not_lt.mp c2
      rw [if_pos ⟨y1, y2⟩] at hcall
      have v3 : upd lr (6 * k + 2) (qc k - x) (6 * k + 3) = qe k := by rw [kv_upo (by omega), a4]
      unfold pf_L_rights_471 pf_L_rights_492 pf_L_rights_513 pf_L_rights_544
      rw [kv_T_s, kv_a2, hg (show 6 * k + 2 < 60 by omega), kv_T_s, hc (show 6 * k + 2 < 60 by omega), a3, if_neg n10, hg (show 6 * k + 2 < 60 by omega), kv_T_s, kv_T_s, kv_a3, hg (show 6 * k + 3 < 60 by omega), kv_T_s, hc (show 6 * k + 3 < 60 by omega), v3, if_neg n10, hg (show 6 * k + 3 < 60 by omega), kv_T_s, hcall, kv_q3_s, if_neg n10, hg (show 6 * k + 3 < 60 by omega), kv_T_s, kv_ups, if_pos rfl]
      refine ⟨_, _, _, _, _, _, _, _, _, _, rfl, li_R h hn10 h.1.2.1 h.1.2.2.1 (fun i hi => ?_)⟩
      obtain ⟨d1, d2, d3, d4, d5, d6, d7, d8, d9, d10, d11, d12, d13, d14⟩ := h.2.2.2.2.2.2.2 i hi
      by_cases e : i = k
      · subst e
        obtain ⟨z1, z2, z3, z4, z5⟩ := kv_len a9 a10 a11 a12 a13 hx1 y1 y2
        rw [kv_ups, kv_ups, kv_upo (show 6 * i ≠ 6 * i + 3 by omega), kv_upo (show 6 * i ≠ 6 * i + 2 by omega), kv_upo (show 6 * i + 1 ≠ 6 * i + 3 by omega), kv_upo (show 6 * i + 1 ≠ 6 * i + 2 by omega), kv_upo (show 6 * i + 2 ≠ 6 * i + 3 by omega), kv_ups, kv_ups, kv_upo (show 6 * i + 4 ≠ 6 * i + 3 by omega), kv_upo (show 6 * i + 4 ≠ 6 * i + 2 by omega), kv_upo (show 6 * i + 5 ≠ 6 * i + 3 by omega), kv_upo (show 6 * i + 5 ≠ 6 * i + 2 by omega)]
        exact ⟨d1, d2, rfl, rfl, d5, d6, d7, d8, z1, z2, z3, z4, z5, d14⟩
      · rw [kv_upo e, kv_upo e, kv_upo (show 6 * i ≠ 6 * k + 3 by omega), kv_upo (show 6 * i ≠ 6 * k + 2 by omega), kv_upo (show 6 * i + 1 ≠ 6 * k + 3 by omega), kv_upo (show 6 * i + 1 ≠ 6 * k + 2 by omega), kv_upo (show 6 * i + 2 ≠ 6 * k + 3 by omega), kv_upo (show 6 * i + 2 ≠ 6 * k + 2 by omega), kv_upo (show 6 * i + 3 ≠ 6 * k + 3 by omega), kv_upo (show 6 * i + 3 ≠ 6 * k + 2 by omega), kv_upo (show 6 * i + 4 ≠ 6 * k + 3 by omega), kv_upo (show 6 * i + 4 ≠ 6 * k + 2 by omega), kv_upo (show 6 * i + 5 ≠ 6 * k + 3 by omega), kv_upo (show 6 * i + 5 ≠ 6 * k + 2 by omega)]
        exact ⟨d1, d2, d3, d4, d5, d6, d7, d8, d9, d10, d11, d12, d13, d14⟩
theorem u_420 (h : kv_li lm lp lr lq kc kh fo kl kp dy n qp qm ql qv qc qe sw) (mo p1 p2 : Int32) {k c : Nat} (hk : k < n) (hc : c < 13) : u_rt lm lp kc kh fo kl kp dy sw (pf_L_rights_420 lp kl dy p1 p2 (nI k) (nI c) (nI (6 * k)) lr lq mo n qp qm ql qv qc qe) := by
  obtain ⟨a, ha, ea⟩ := u_lowL (p2 >>> (9 &&& 31)) 2 (k := 2) rfl (by decide) (by decide)
  unfold pf_L_rights_420
  rw [ea, kv_q1_s]
  by_cases q : nI a = 0
  · rw [if_pos q]
    exact u_lend h mo p1 p2 hk (kv_pos12 c hc).1 (kv_pos12 c hc).2
  · rw [if_neg q]
    exact u_lend h mo p1 p2 hk (kv_neg12 c hc).1 (kv_neg12 c hc).2
theorem u_205 (h : kv_li lm lp lr lq kc kh fo kl kp dy n qp qm ql qv qc qe sw) (mo p1 p2 : Int32) {k : Nat} (hk : k < n) : u_rt lm lp kc kh fo kl kp dy sw (pf_L_rights_205 lp kl dy p1 p2 (nI k) lr lq mo n qp qm ql qv qc qe) := by
  have hn10 := h.1.1
  obtain ⟨c, hc, ec⟩ := u_lowL (p2 >>> (4 &&& 31)) 12 (k := 12) rfl (by decide) (by decide)
  have hg : ∀ {α : Type} {x : Nat} (_ : x < 60) (z : Option α), kv_G (nI x) 60 z = z := fun hx z => kv_gN hx (by omega) z
  have hcl : ∀ {x : Nat} (_ : x < 60), (nI x).toNatClampNeg = x := fun hx => nI_clamp (by omega)
  have h420 := u_420 h mo p1 p2 hk (show 1 + c < 13 by omega)
  obtain ⟨a1, a2, a3, a4, a5, a6, a7, a8, a9, a10, a11, a12, a13, a14⟩ := h.2.2.2.2.2.2.2 k hk
  obtain ⟨p, hp, hq⟩ : ∃ p, p < 2 ∧ qp k = nI p := by
    rcases a7 with e | e
    · exact ⟨0, by decide, e⟩
    · exact ⟨1, by decide, e⟩
  have b1 := (h.2.2.2.2.2.2.1 p hp).1
  have hx1 : 1 ≤ nI (1 + c) := nI_le (a := 1) (by omega) (by omega)
  have hx : nI (1 + c) ≤ 500 := nI_le (b := 500) (by omega) (by decide)
  unfold pf_L_rights_205
  rw [ec, kv_q1_s, kv_T_s, kv_1a, kv_T_s, kv_6i]
  by_cases q1 : p1 = 1
  · rw [if_pos q1, g3_1, kv_T_s, c_1, h.1.2.2.1]
    by_cases q2 : (10 : Int32) ≤ nI n
    · rw [if_pos q2]
      exact h420
    · have hn : n < 10 := by
        have h10 : (10 : Int32) ≤ nI n ↔ 10 ≤ n := nI_leI (a := 10) (by decide) (by omega)
        exact Nat.not_le.mp (fun z => q2 (h10.mpr z))
      have no : ¬ (nI (1 + c) ≤ qc k ∧ ¬ qv k = kl p) → u_rt lm lp kc kh fo kl kp dy sw (pf_L_rights_274 lp kl dy p1 p2 (nI k) (nI (1 + c)) (nI (6 * k)) 0 lr lq mo n qp qm ql qv qc qe) := by
        intro hno
        unfold pf_L_rights_274 pf_L_rights_291
        rw [if_pos rfl, if_pos rfl]
        exact u_up398 h mo p1 p2 hn hk hp hq hx1 hx hno
      rw [if_neg q2, kv_a2, hg (show 6 * k + 2 < 60 by omega), kv_T_s, hcl (show 6 * k + 2 < 60 by omega), a3, kv_a4, hg (show 6 * k + 4 < 60 by omega), kv_T_s, hcl (show 6 * k + 4 < 60 by omega), a5, hg (show 6 * k < 60 by omega), kv_T_s, hcl (show 6 * k < 60 by omega), a1, hq, kv_2i, kv_gN (show 2 * p < 4 by omega) (by omega), kv_T_s, nI_clamp (show 2 * p < 2 ^ 31 by omega), b1]
      by_cases q3 : qc k < nI (1 + c)
      · rw [if_pos q3]
        exact no (fun z => absurd q3 (Int32.not_lt.mpr z.1))
      · rw [if_neg q3]
        by_cases q4 : kl p ≤ qv k
        · rw [if_pos q4]
          rw [hq, nI_clamp (by omega)] at a14
          exact no (fun z => z.2 (Int32.le_antisymm a14 q4))
        · rw [if_neg q4]
          unfold pf_L_rights_274
          rw [if_neg n10, g3_1, kv_T_s, c_1, h.1.2.2.1]
          exact u_up1 h mo p1 p2 hn hk hp hq hx1 hx (Int32.not_lt.mp q3) (fun z => q4 (by rw [z]; exact Int32.le_refl _))
  · rw [if_neg q1]
    exact h420
theorem u_32b (h : kv_li lm lp lr lq kc kh fo kl kp dy n qp qm ql qv qc qe sw) (mo p1 p2 z0 : Int32) (hn : n < 10) : u_rt lm lp kc kh fo kl kp dy sw (pf_L_rights_32 lp kl dy p1 p2 z0 lr lq mo n qp qm ql qv qc qe) := by
  have hg : ∀ {α : Type} {x : Nat} (_ : x < 60) (z : Option α), kv_G (nI x) 60 z = z := fun hx z => kv_gN hx (by omega) z
  have hcl : ∀ {x : Nat} (_ : x < 60), (nI x).toNatClampNeg = x := fun hx => nI_clamp (by omega)
  obtain ⟨a, ha, ea⟩ := u_lowL p2 2 (k := 2) rfl (by decide) (by decide)
  obtain ⟨b, hb, eb⟩ := u_lowL (p2 >>> (2 &&& 31)) 2 (k := 2) rfl (by decide) (by decide)
  have h10 : (10 : Int32) ≤ nI n ↔ 10 ≤ n := nI_leI (a := 10) (by decide) (by omega)
  unfold pf_L_rights_32
  rw [g3_1, kv_T_s, c_1, h.1.2.2.1, if_neg (fun q => by have := h10.mp q; omega), g3_1, kv_T_s, kv_T_s, kv_6i, ea, kv_q1_s, hg (show 6 * n < 60 by omega), kv_T_s, hcl (show 6 * n < 60 by omega), eb, kv_q1_s, kv_p1, hg (show 6 * n + 1 < 60 by omega), kv_T_s, hcl (show 6 * n + 1 < 60 by omega), hg (show 6 * n + 1 < 60 by omega), kv_T_s, kv_ups, kv_a2]
  by_cases q : nI b = 0
  · rw [if_pos q]
    exact u_buy h mo p1 p2 (p2 >>> (4 &&& 31)) 3 hn ha hb (m := 3) rfl (by decide) (by decide)
  · rw [if_neg q]
    exact u_buy h mo p1 p2 (p2 >>> (4 &&& 31)) 30 hn ha hb (m := 30) rfl (by decide) (by decide)
theorem u_rights (h : kv_li lm lp lr lq kc kh fo kl kp dy n qp qm ql qv qc qe sw) (mo p1 p2 : Int32) : u_rt lm lp kc kh fo kl kp dy sw (pf_L_rights lp kl dy p1 p2 lr lq mo n qp qm ql qv qc qe) := by
  have hn10 := h.1.1
  have h10 : (10 : Int32) ≤ nI n ↔ 10 ≤ n := nI_leI (a := 10) (by decide) (by omega)
  unfold pf_L_rights
  rw [g3_1, kv_T_s, c_1, h.1.2.2.1]
  by_cases q : nI n = 0
  · have hn0 : n = 0 := by
      have : nI n = 0 ↔ n = 0 := nI_eq (b := 0) (by omega) (by decide)
      exact this.mp q
    have h32 := u_32b h mo p1 p2 0 (by omega)
    rw [if_pos q]
    unfold pf_L_rights_19
    by_cases q1 : p1 = 0
    · rw [if_pos q1]
      exact h32
    · rw [if_neg q1, g3_1, kv_T_s, c_1, h.1.2.2.1, if_pos q]
      exact h32
  · have hn0 : 0 < n := by
      rcases Nat.eq_zero_or_pos n with z | z
      · exact absurd (by rw [z, nI_0]) q
      · exact z
    obtain ⟨k, hk, ek⟩ := u_low p2 hn0 (by omega)
    have h205 := u_205 h mo p1 p2 hk
    rw [if_neg q, g3_1, kv_T_s, ek, kv_q1_s]
    unfold pf_L_rights_19
    by_cases q1 : p1 = 0
    · rw [if_pos q1]
      by_cases q2 : n < 10
      · exact u_32b h mo p1 p2 (nI k) q2
      · unfold pf_L_rights_32
        rw [g3_1, kv_T_s, c_1, h.1.2.2.1, if_pos (h10.mpr (by omega))]
        exact h205
    · rw [if_neg q1, g3_1, kv_T_s, c_1, h.1.2.2.1, if_neg q]
      exact h205
end RT
end KVL47
