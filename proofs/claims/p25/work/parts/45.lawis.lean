section KVL45
theorem kv_q7_s {A B C E F G I β : Type} (a : A) (b : B) (c : C) (d : E) (e : F) (f : G) (g : I) (k : A → B → C → E → F → G → I → Option β) : kv_q7 (some (a, b, c, d, e, f, g)) k = k a b c d e f g := rfl
theorem kv_q8_s {A B C E F G I J β : Type} (a : A) (b : B) (c : C) (d : E) (e : F) (f : G) (g : I) (h : J) (k : A → B → C → E → F → G → I → J → Option β) : kv_q8 (some (a, b, c, d, e, f, g, h)) k = k a b c d e f g h := rfl
section IS
variable (lp kc kh : Nat → Int32) (fo : Nat → Nat → Int32) (kl kp : Nat → Int32) (dy : Int32) (n : Nat) (qp qm ql qv qc qe : Nat → Int32)
def u_ok (X : Option (Int32 × (Nat → Int32) × (Nat → Int32) × (Nat → Int32) × (Nat → Int32) × (Nat → Int32) × (Nat → Int32) × (Nat → Int32) × Int32 × (Nat → Int32) × (Nat → Int32) × (Nat → Int32))) : Prop := ∃ (lm' lr' lq' ks' mt' mv' sw' : Nat → Int32) (hv' : Int32) (tk' tn' sc' : Nat → Int32), X = some (1, lm', lr', lq', ks', mt', mv', sw', hv', tk', tn', sc') ∧ kv_li lm' lp lr' lq' kc kh fo kl kp dy n qp qm ql qv qc qe sw'
theorem s506 (p1 : Int32) {lm lr lq : Nat → Int32} (ks mt mv : Nat → Int32) {sw : Nat → Int32} (hv : Int32) (tk tn sc : Nat → Int32) (h : kv_li lm lp lr lq kc kh fo kl kp dy n qp qm ql qv qc qe sw) : u_ok lp kc kh fo kl kp dy n qp qm ql qv qc qe (pf_L_isSo_506 lp kc kh fo kl kp dy n qp qm qv qc p1 1 lm lr lq ks mt mv sw hv tk tn sc) := by
  have hn10 := h.1.1
  have e1 := h.1.2.2.1
  unfold pf_L_isSo_506
  rw [if_neg n10, g3_1, kv_T_s, c_1, e1]
  by_cases c : nI n = 0
  · rw [if_pos c]
    exact ⟨lm, lr, lq, ks, mt, mv, sw, hv, tk, tn, sc, rfl, h⟩
  · obtain ⟨a, ha, e⟩ := u_lowL (p1 >>> (6 &&& 31)) 5 (k := 5) rfl (by decide) (by decide)
    rw [if_neg c, e, kv_q1_s]
    by_cases c2 : 0 < nI a
    · rw [if_pos c2]
      exact ⟨lm, lr, lq, ks, mt, mv, sw, hv, tk, tn, sc, rfl, h⟩
    · have hn0 : 0 < n := by
        rcases Nat.eq_zero_or_pos n with z | z
        · exact absurd (by rw [z, nI_0]) c
        · exact z
      obtain ⟨r, hr, er⟩ := u_low (p1 >>> (8 &&& 31)) hn0 (by omega)
      obtain ⟨lq', mt', mv', sw', hv', tk', s1, s2, s3⟩ := u_spare h hr mt mv hv tk
      rw [if_neg c2, g3_1, kv_T_s, er, kv_q1_s, s1, kv_q8_s, if_neg n10]
      exact ⟨lm, lr, lq', ks, mt', mv', sw', hv', tk', tn, sc, rfl, li_s (li_q h s2) s3⟩
theorem kv_p1 (i : Nat) : nI i + 1 = nI (i + 1) := nI_1 i
theorem s370 (p1 : Int32) {p : Nat} (hp : p < 2) {lm lr lq : Nat → Int32} (ks mt mv : Nat → Int32) {sw : Nat → Int32} (hv : Int32) (tk tn sc : Nat → Int32) (h : kv_li lm lp lr lq kc kh fo kl kp dy n qp qm ql qv qc qe sw) : u_ok lp kc kh fo kl kp dy n qp qm ql qv qc qe (pf_L_isSo_370 lp kc kh fo kl kp dy n qp qm qv qc p1 1 (nI p) lm lr lq ks mt mv sw hv tk tn sc) := by
  have h0 := s506 lp kc kh fo kl kp dy n qp qm ql qv qc qe p1 ks mt mv hv tk tn sc h
  unfold pf_L_isSo_370
  rw [if_neg n10]
  obtain ⟨a, ha, e⟩ := u_lowL (p1 >>> (5 &&& 31)) 4 (k := 4) rfl (by decide) (by decide)
  rw [e, kv_q1_s]
  by_cases c : nI a = 0
  · obtain ⟨k, hk, ek⟩ := u_lowL (p1 >>> (7 &&& 31)) 5 (k := 5) rfl (by decide) (by decide)
    obtain ⟨b, hb, eb⟩ := u_lowL (p1 >>> (9 &&& 31)) 6 (k := 6) rfl (by decide) (by decide)
    have hto : nI b - 1 = -1 ∨ ∃ c, c < 5 ∧ nI b - 1 = nI c := by
      rcases u_to hb with ⟨_, q⟩ | ⟨c, _, q1, q2⟩
      · exact Or.inl q
      · exact Or.inr ⟨c, q1, q2⟩
    rw [if_pos c, ek, kv_q1_s, eb, kv_q1_s, kv_T_s]
    generalize nI b - 1 = to at hto
    obtain ⟨r1, r2⟩ := u_ref lm kh k to hk hto (fun j hj => ⟨(h.2.1 j hj).2.1, (h.2.1 j hj).2.2.1⟩) h.2.2.2.1
    have hg1 : ∀ {α : Type} (z : Option α), kv_G (nI (4 * k + 1)) 20 z = z := fun z => kv_gN (by omega) (by omega) z
    have hc1 : (nI (4 * k + 1)).toNatClampNeg = 4 * k + 1 := nI_clamp (by omega)
    have hck : (nI k).toNatClampNeg = k := nI_clamp (by omega)
    have hlk := (h.2.1 k hk).2.1
    obtain ⟨ks', mt', mv', sw', hv', tk', v1, v2⟩ := u_gapIf (kh := kh) (ks := ks) (qm := qm) (qv := qv) (nI k) to 0 (li_n h) (show p < 4 by omega) (li_qp h) (li_qc h) h.2.2.1 (li_kp h hp) mt mv sw hv tk h.1.2.2.2 r2
    -- the end, with the gap that is due
    have h469 : ∀ (z : Int32) (lm1 lq1 : Nat → Int32) (a1 : Int32), lm1 = upd lm (4 * k + 1) a1 → (∀ j, j ≠ 2 → lq1 j = lq j) → z = (if kv_mv kh (nI k) to = 0 then nI (kv_Wk kc fo kp qp qm qv qc (upd (va_cpy kh ks 0 0 8) (nI k).toNatClampNeg to) n p) else kv_cd (kv_mv kh (nI k) to)) → u_ok lp kc kh fo kl kp dy n qp qm ql qv qc qe (pf_L_isSo_469 lp kc kh fo kl kp dy n qp qm qv qc p1 (nI p) (nI k) to (kh k) z lm1 lr lq1 ks mt mv sw hv tk tn sc) := by
      intro z lm1 lq1 a1 hl hq hz
      unfold pf_L_isSo_469 pf_L_isSo_504
      rw [kv_4i, kv_p1, hg1, kv_T_s, hc1, hl, kv_upd1 hlk, v1, kv_q7_s, if_pos hz.symm]
      exact s506 lp kc kh fo kl kp dy n qp qm ql qv qc qe p1 ks' mt' mv' hv' tk' tn sc (li_s (li_q h hq) v2)
    rw [r1, kv_q1_s, kv_4i, kv_p1, hg1, kv_T_s, hc1, hlk]
    by_cases c0 : kv_mv kh (nI k) to = 0
    · -- it may move
      have ecd : kv_cd (kv_mv kh (nI k) to) = 0 := by rw [c0]; rfl
      rw [ecd, if_pos (Int32.le_refl 0)]
      unfold pf_L_isSo_447
      rw [hg1, kv_T_s, hc1, if_pos (Int32.le_refl 0)]
      have hbnd : -1 ≤ to ∧ to ≤ 4 := by
        rcases hto with q | ⟨c, q1, q2⟩
        · rw [q]; decide
        · rw [q2]
          refine ⟨?_, nI_le (b := 4) (by omega) (by decide)⟩
          rw [Int32.le_iff_toInt_le, kv_in1, nI_toInt (by omega)]
          omega
      have hPm : u_P (upd lm (4 * k + 1) to) lp lr kc fo kp qp qm qv qc (upd (va_cpy kh ks 0 0 8) (nI k).toNatClampNeg to) n p := by
        refine li_Pm h hp (fun i hi => ?_) (fun i hi => ?_)
        · obtain ⟨a1, a2, a3, a4⟩ := h.2.1 i hi
          rw [hck]
          unfold upd
          rw [if_neg (show ¬ 4 * i = 4 * k + 1 by omega)]
          by_cases q : i = k
          · rw [if_pos (by omega), if_pos q]
            exact ⟨a1, rfl, hbnd⟩
          · rw [if_neg (by omega), if_neg q, pk_cpy_in (Nat.zero_le i) (by omega), Nat.zero_add, Nat.sub_zero]
            exact ⟨a1, a2, a3, a4⟩
        · unfold upd
          rw [if_neg (by omega)]
          exact h.2.2.2.2.1 i p hi hp
      obtain ⟨lq', g1, g2, g3⟩ := u_lg hPm lq h.1.2.2.1
      rw [g1, kv_q2_s]
      exact h469 _ _ _ to rfl g3 (by rw [if_pos c0])
    · have hle := kv_mv_le kh (nI k) to
      have hneg : ¬ 0 ≤ kv_cd (kv_mv kh (nI k) to) := by
        rcases (show kv_mv kh (nI k) to = 2 ∨ kv_mv kh (nI k) to = 3 by omega) with q | q
        · rw [q]; decide
        · rw [q]; decide
      rw [if_neg hneg]
      unfold pf_L_isSo_447
      rw [hg1, kv_T_s, hc1, if_neg hneg]
      exact h469 _ _ _ (kh k) rfl (fun _ _ => rfl) (by rw [if_neg c0])
  · rw [if_neg c]
    exact h0
theorem u_many (lr lq : Nat → Int32) (p : Nat) (hn : n ≤ 10) (h1 : lq 1 = nI n) (hR : ∀ i, i < n → lr (6 * i) = qp i ∧ lr (6 * i + 2) = qc i) : ∀ (k f i x : Nat), i + k = n → k < f → x ≤ i → pf_L_many_5 lr lq (nI p) f (nI x) (nI i) = some (nI (kv_ct (kv_use qp qc (nI p) (-1)) i k x)) := by
  intro k
  induction k with
  | zero =>
    intro f i x hi hf hx
    obtain ⟨f, rfl⟩ : ∃ z, f = z + 1 := ⟨f - 1, by omega⟩
    rw [pf_L_many_5.eq_2]
    unfold pf_L_many_5b
    rw [g3_1, kv_T_s, c_1, h1, if_pos ((nI_leI (by omega) (by omega)).mpr (by omega))]
    rfl
  | succ k ih =>
    intro f i x hi hf hx
    obtain ⟨f, rfl⟩ : ∃ z, f = z + 1 := ⟨f - 1, by omega⟩
    have hin : i < n := by omega
    have hu := kv_use_t (qp := qp) (qc := qc) (p0 := nI p) (i := i) (by omega)
    have hc : kv_ct (kv_use qp qc (nI p) (-1)) i (k + 1) x = kv_ct (kv_use qp qc (nI p) (-1)) (i + 1) k (if kv_use qp qc (nI p) (-1) i = true then x + 1 else x) := rfl
    have hz : nI x + 0 = nI x := by rw [← nI_0, nI_add, Nat.add_zero]
    rw [pf_L_many_5.eq_2, hc]
    unfold pf_L_many_5b pf_L_many_42
    rw [g3_1, kv_T_s, c_1, h1, if_neg (fun q => by have := (nI_leI (by omega) (by omega)).mp q; omega), kv_6i, kv_gN (show 6 * i < 60 by omega) (by omega), kv_T_s, nI_clamp (show 6 * i < 2 ^ 31 by omega), (hR i hin).1, kv_a2, kv_gN (show 6 * i + 2 < 60 by omega) (by omega), kv_T_s, nI_clamp (show 6 * i + 2 < 2 ^ 31 by omega), (hR i hin).2, kv_T_s, kv_T_s, hz, nI_1, nI_1]
    by_cases c2 : qp i = nI p
    · by_cases c3 : qc i ≤ 0
      · rw [if_pos c2, if_pos c3, if_neg (fun q => (hu.mp q).2 c3)]
        exact ih f (i + 1) x (by omega) (by omega) (by omega)
      · rw [if_pos c2, if_neg c3, if_pos (hu.mpr ⟨c2, c3⟩)]
        exact ih f (i + 1) (x + 1) (by omega) (by omega) (by omega)
    · rw [if_neg c2, if_neg (fun q => c2 (hu.mp q).1)]
      exact ih f (i + 1) x (by omega) (by omega) (by omega)
theorem kv_ct_le (use : Nat → Bool) : ∀ (k i x : Nat), kv_ct use i k x ≤ x + k := by
  intro k
  induction k with
  | zero => intro i x; exact Nat.le_refl _
  | succ k ih =>
    intro i x
    show kv_ct use (i + 1) k (if use i = true then x + 1 else x) ≤ _
    refine Nat.le_trans (ih (i + 1) _) ?_
    split <;> omega
theorem s311 (p1 : Int32) {p : Nat} (hp : p < 2) {lm lr lq : Nat → Int32} (ks mt mv : Nat → Int32) {sw : Nat → Int32} (hv : Int32) (tk tn sc : Nat → Int32) (h : kv_li lm lp lr lq kc kh fo kl kp dy n qp qm ql qv qc qe sw) : u_ok lp kc kh fo kl kp dy n qp qm ql qv qc qe (pf_L_isSo_311 lp kc kh fo kl kp dy n qp qm qv qc p1 (nI p) (nI (kv_Wk kc fo kp qp qm qv qc kh n p)) 1 lm lr lq ks mt mv sw hv tk tn sc) := by
  have h0 := s370 lp kc kh fo kl kp dy n qp qm ql qv qc qe p1 hp ks mt mv hv tk tn sc h
  have hn10 := h.1.1
  unfold pf_L_isSo_311
  rw [if_neg n10]
  obtain ⟨a, ha, e⟩ := u_lowL (p1 >>> (4 &&& 31)) 8 (k := 8) rfl (by decide) (by decide)
  rw [e, kv_q1_s]
  by_cases c : nI a = 0
  · obtain ⟨mt', mv', sw', hv', tk', tn', sc', v1, v2⟩ := u_all (kh := kh) (qm := qm) (qv := qv) 0 0 0 (li_n h) (show p < 4 by omega) (li_qp h) (li_qc h) h.2.2.1 (li_kp h hp) mt mv sw hv tk tn sc h.1.2.2.2
    have hm : pf_L_many lr lq (nI p) = some (nI (kv_ct (kv_use qp qc (nI p) (-1)) 0 n 0)) := by
      have q := u_many n qp qc lr lq p hn10 h.1.2.2.1 (fun i hi => ⟨(h.2.2.2.2.2.2.2 i hi).1, (h.2.2.2.2.2.2.2 i hi).2.2.1⟩) n kv_F 0 0 (by omega) (kv_Fgt (by omega)) (Nat.le_refl 0)
      rw [nI_0] at q
      exact q
    have hcl := kv_ct_le (kv_use qp qc (nI p) (-1)) n 0 0
    have h2 : nI (kv_ct (kv_use qp qc (nI p) (-1)) 0 n 0) ≤ 2 ↔ kv_ct (kv_use qp qc (nI p) (-1)) 0 n 0 ≤ 2 := nI_leI (b := 2) (by omega) (by decide)
    have h3 := s370 lp kc kh fo kl kp dy n qp qm ql qv qc qe p1 hp ks mt' mv' hv' tk' tn' sc' (li_s h v2)
    rw [if_pos c, v1, kv_q8_s, hm, kv_q1_s]
    unfold pf_L_isSo_360 pf_L_isSo_368
    by_cases c2 : kv_ct (kv_use qp qc (nI p) (-1)) 0 n 0 ≤ 2
    · rw [if_pos (h2.mpr c2), if_pos c2, if_pos rfl]
      exact h3
    · rw [if_neg (fun q => c2 (h2.mp q)), if_neg c2, if_pos rfl]
      exact h3
  · rw [if_neg c]
    exact h0
theorem s242 (p1 : Int32) {lm lr lq : Nat → Int32} (ks mt mv : Nat → Int32) {sw : Nat → Int32} (hv : Int32) (tk tn sc : Nat → Int32) (h : kv_li lm lp lr lq kc kh fo kl kp dy n qp qm ql qv qc qe sw) : u_ok lp kc kh fo kl kp dy n qp qm ql qv qc qe (pf_L_isSo_242 lp kc kh fo kl kp dy n qp qm qv qc p1 1 lm lr lq ks mt mv sw hv tk tn sc) := by
  obtain ⟨p, hp, e⟩ := u_lowL p1 2 (k := 2) rfl (by decide) (by decide)
  obtain ⟨lq', g1, g2, g3⟩ := u_lg (li_P h hp) lq h.1.2.2.1
  obtain ⟨b1, b2, b3⟩ := h.2.2.2.2.2.2.1 p hp
  obtain ⟨mt1, mv1, sw1, hv1, tk1, x1, x2⟩ := n_gap (kh := kh) (qm := qm) (qv := qv) (li_n h) (show p < 4 by omega) (li_qp h) (li_qc h) h.2.2.1 (li_kp h hp) mt mv sw hv tk h.1.2.2.2
  obtain ⟨mt2, mv2, sw2, hv2, tk2, y1, y2⟩ := n_unc (kh := kh) (qm := qm) (qv := qv) (li_n h) (show p < 4 by omega) (li_qp h) (li_qc h) h.2.2.1 (li_kp h hp) mt1 mv1 sw1 hv1 tk1 x2
  unfold pf_L_isSo_242
  rw [e, kv_q1_s, g1, kv_q2_s, if_neg n10, n_latest kl (show p < 4 by omega), kv_q1_s, kv_2i, kv_gN (show 2 * p < 4 by omega) (by omega), kv_T_s, nI_clamp (show 2 * p < 2 ^ 31 by omega), b1, if_pos rfl, x1, kv_q6_s, if_pos rfl, y1, kv_q6_s, g3_2, kv_T_s, c_2, g2, if_pos rfl]
  exact s311 lp kc kh fo kl kp dy n qp qm ql qv qc qe p1 hp ks mt2 mv2 hv2 tk2 tn sc (li_s (li_q h g3) y2)
theorem s146 (p1 : Int32) {lm lr lq : Nat → Int32} (ks mt mv : Nat → Int32) {sw : Nat → Int32} (hv : Int32) (tk tn sc : Nat → Int32) (h : kv_li lm lp lr lq kc kh fo kl kp dy n qp qm ql qv qc qe sw) : ∀ (k f i : Nat), i + k = n → k < f → u_ok lp kc kh fo kl kp dy n qp qm ql qv qc qe (pf_L_isSo_146 lp kc kh fo kl kp dy n qp qm qv qc p1 f 1 (nI i) lm lr lq ks mt mv sw hv tk tn sc) := by
  have hn10 := h.1.1
  intro k
  induction k with
  | zero =>
    intro f i hi hf
    obtain ⟨f, rfl⟩ : ∃ z, f = z + 1 := ⟨f - 1, by omega⟩
    rw [pf_L_isSo_146.eq_2]
    unfold pf_L_isSo_146b
    rw [g3_1, kv_T_s, c_1, h.1.2.2.1, if_pos ((nI_leI (by omega) (by omega)).mpr (by omega))]
    exact s242 lp kc kh fo kl kp dy n qp qm ql qv qc qe p1 ks mt mv hv tk tn sc h
  | succ k ih =>
    intro f i hi hf
    obtain ⟨f, rfl⟩ : ∃ z, f = z + 1 := ⟨f - 1, by omega⟩
    have hin : i < n := by omega
    obtain ⟨a1, a2, a3, a4, a5, a6, a7, a8, a9⟩ := h.2.2.2.2.2.2.2 i hin
    obtain ⟨p, hp, hqr⟩ : ∃ p, p < 2 ∧ qp i = nI p := by
      rcases a7 with e | e
      · exact ⟨0, by decide, e⟩
      · exact ⟨1, by decide, e⟩
    obtain ⟨j, hj, ej⟩ := u_lowL (p1 >>> (nI i &&& 31)) 5 (k := 5) rfl (by decide) (by decide)
    have hcov := u_cov lm lr fo qp qm qv kh i p j (by omega) hp (a1.trans hqr) a2 a5 hqr (fun i hi => (h.2.1 i hi).2.1) (fun i hi => h.2.2.2.2.1 i p hi hp) (fun i a b => h.2.2.2.2.2.1 i p a b hp)
    have step : pf_L_isSo_146 lp kc kh fo kl kp dy n qp qm qv qc p1 (f + 1) 1 (nI i) lm lr lq ks mt mv sw hv tk tn sc = pf_L_isSo_146 lp kc kh fo kl kp dy n qp qm qv qc p1 f 1 (nI (i + 1)) lm lr lq ks mt mv sw hv tk tn sc := by
      rw [pf_L_isSo_146.eq_2]
      unfold pf_L_isSo_146b pf_L_isSo_234
      rw [g3_1, kv_T_s, c_1, h.1.2.2.1, if_neg (fun q => by have := (nI_leI (by omega) (by omega)).mp q; omega), if_neg n10, ej, kv_q1_s, n_countOf qc (li_n h) hin, kv_q1_s, kv_6i, kv_a2, kv_gN (show 6 * i + 2 < 60 by omega) (by omega), kv_T_s, nI_clamp (show 6 * i + 2 < 2 ^ 31 by omega), a3, if_pos rfl, n_versionOf qv (li_n h) hin, kv_q1_s, kv_a4, kv_gN (show 6 * i + 4 < 60 by omega) (by omega), kv_T_s, nI_clamp (show 6 * i + 4 < 2 ^ 31 by omega), a5, if_pos rfl, n_covers kh fo qp qm qv (li_n h) hin (by omega) (li_qp h i hin), kv_q1_s, hcov, kv_q1_s, if_pos rfl, nI_1]
    rw [step]
    exact ih f (i + 1) (by omega) (by omega)
theorem s32 (p1 : Int32) {lm lr lq : Nat → Int32} (ks mt mv : Nat → Int32) {sw : Nat → Int32} (hv : Int32) (tk tn sc : Nat → Int32) (h : kv_li lm lp lr lq kc kh fo kl kp dy n qp qm ql qv qc qe sw) : ∀ (k f i : Nat), i + k = 5 → k < f → u_ok lp kc kh fo kl kp dy n qp qm ql qv qc qe (pf_L_isSo_32 lp kc kh fo kl kp dy n qp qm qv qc p1 f 1 (nI i) lm lr lq ks mt mv sw hv tk tn sc) := by
  have hn10 := h.1.1
  intro k
  induction k with
  | zero =>
    intro f i hi hf
    obtain ⟨f, rfl⟩ : ∃ z, f = z + 1 := ⟨f - 1, by omega⟩
    rw [pf_L_isSo_32.eq_2]
    unfold pf_L_isSo_32b pf_L_isSo_143
    rw [if_pos ((kv_ge5 (by omega)).mpr (by omega)), ← nI_0]
    exact s146 lp kc kh fo kl kp dy n qp qm ql qv qc qe p1 ks mt mv hv tk tn sc h n kv_F 0 (by omega) (kv_Fgt (by omega))
  | succ k ih =>
    intro f i hi hf
    obtain ⟨f, rfl⟩ : ∃ z, f = z + 1 := ⟨f - 1, by omega⟩
    have hi5 : i < 5 := by omega
    obtain ⟨a1, a2, a3, a4⟩ := h.2.1 i hi5
    have f0 := h.2.2.2.2.1 i 0 hi5 (by decide)
    have f1 := h.2.2.2.2.1 i 1 hi5 (by decide)
    have l1 := (h.2.2.2.2.2.2.1 0 (by decide)).2.1
    have l3 := (h.2.2.2.2.2.2.1 1 (by decide)).2.1
    have w0 := n_weight kc fo kp (show i < 8 by omega) (show 0 < 4 by decide)
    have w1 := n_weight kc fo kp (show i < 8 by omega) (show 1 < 4 by decide)
    have hg : ∀ {α : Type} {x : Nat} (_ : x < 20) (z : Option α), kv_G (nI x) 20 z = z := fun hx z => kv_gN hx (by omega) z
    have s127 : ∀ z, z = kv_wt kc fo kp i 1 → pf_L_isSo_127 lp kc kh fo kl kp dy n qp qm qv qc p1 (pf_L_isSo_32 lp kc kh fo kl kp dy n qp qm qv qc p1 f) (nI i) (kv_wt kc fo kp i 1) z lm lr lq ks mt mv sw hv tk tn sc = pf_L_isSo_32 lp kc kh fo kl kp dy n qp qm qv qc p1 f 1 (nI (i + 1)) lm lr lq ks mt mv sw hv tk tn sc := by
      intro z hz
      unfold pf_L_isSo_127 pf_L_isSo_135
      rw [if_pos hz.symm, nI_1]
    have s92 : ∀ z, z = kv_wt kc fo kp i 0 → pf_L_isSo_92 lp kc kh fo kl kp dy n qp qm qv qc p1 (pf_L_isSo_32 lp kc kh fo kl kp dy n qp qm qv qc p1 f) (nI i) (kv_wt kc fo kp i 0) z lm lr lq ks mt mv sw hv tk tn sc = pf_L_isSo_32 lp kc kh fo kl kp dy n qp qm qv qc p1 f 1 (nI (i + 1)) lm lr lq ks mt mv sw hv tk tn sc := by
      intro z hz
      have w1' : pf_X2n_weight kc fo kp (nI i) 1 = some (kv_wt kc fo kp i 1) := w1
      unfold pf_L_isSo_92
      rw [if_pos hz.symm, w1', kv_q1_s, kv_4i, kv_a3, hg (show 4 * i + 3 < 20 by omega), kv_T_s, nI_clamp (show 4 * i + 3 < 2 ^ 31 by omega), show lm (4 * i + 3) = fo i 1 from f1]
      by_cases c : fo i 1 ≤ 0
      · rw [if_pos c]
        exact s127 0 (by unfold kv_wt; rw [if_pos c])
      · rw [if_neg c, hg (show 4 * i < 20 by omega), kv_T_s, nI_clamp (show 4 * i < 2 ^ 31 by omega), g4_3, kv_T_s, c_3, a1, show lp 3 = kp 1 from l3]
        exact s127 _ (by unfold kv_wt; rw [if_neg c])
    have w0' : pf_X2n_weight kc fo kp (nI i) 0 = some (kv_wt kc fo kp i 0) := w0
    have step : pf_L_isSo_32 lp kc kh fo kl kp dy n qp qm qv qc p1 (f + 1) 1 (nI i) lm lr lq ks mt mv sw hv tk tn sc = pf_L_isSo_32 lp kc kh fo kl kp dy n qp qm qv qc p1 f 1 (nI (i + 1)) lm lr lq ks mt mv sw hv tk tn sc := by
      rw [pf_L_isSo_32.eq_2]
      unfold pf_L_isSo_32b
      rw [if_neg (fun q => by have := (kv_ge5 (by omega)).mp q; omega), if_neg n10, n_hostOf kh (show i < 8 by omega), kv_q1_s, kv_4i, kv_p1, hg (show 4 * i + 1 < 20 by omega), kv_T_s, nI_clamp (show 4 * i + 1 < 2 ^ 31 by omega), a2, if_pos rfl, w0', kv_q1_s, kv_a2, hg (show 4 * i + 2 < 20 by omega), kv_T_s, nI_clamp (show 4 * i + 2 < 2 ^ 31 by omega), show lm (4 * i + 2) = fo i 0 from f0]
      by_cases c : fo i 0 ≤ 0
      · rw [if_pos c]
        exact s92 0 (by unfold kv_wt; rw [if_pos c])
      · rw [if_neg c, hg (show 4 * i < 20 by omega), kv_T_s, nI_clamp (show 4 * i < 2 ^ 31 by omega), g4_1, kv_T_s, c_1, a1, show lp 1 = kp 0 from l1]
        exact s92 _ (by unfold kv_wt; rw [if_neg c])
    rw [step]
    exact ih f (i + 1) (by omega) (by omega)
/-- the law's look at the whole keeper answers yes -/
theorem u_isSo (p1 : Int32) {lm lr lq : Nat → Int32} (ks mt mv : Nat → Int32) {sw : Nat → Int32} (hv : Int32) (tk tn sc : Nat → Int32) (h : kv_li lm lp lr lq kc kh fo kl kp dy n qp qm ql qv qc qe sw) : u_ok lp kc kh fo kl kp dy n qp qm ql qv qc qe (pf_L_isSo lp kc kh fo kl kp dy n qp qm qv qc p1 lm lr lq ks mt mv sw hv tk tn sc) := by
  have t1 : pf_X2_today dy = some dy := rfl
  have t2 : pf_X2_rights n = some (nI n) := rfl
  unfold pf_L_isSo pf_L_isSo_27
  rw [t1, kv_q1_s, g3_0, kv_T_s, c_0, h.1.2.1, if_pos rfl, t2, kv_q1_s, g3_1, kv_T_s, c_1, h.1.2.2.1, if_pos rfl, ← nI_0]
  exact s32 lp kc kh fo kl kp dy n qp qm ql qv qc qe p1 ks mt mv hv tk tn sc h 5 kv_F 0 (by omega) (kv_Fgt (by omega))
end IS
end KVL45
