def pf_L_spare_156 (lm : Nat → Int32) (lp : Nat → Int32) (kc : Nat → Int32) (kh : Nat → Int32) (fo : Nat → Nat → Int32) (kp : Nat → Int32) (n : Nat) (qp : Nat → Int32) (qm : Nat → Int32) (qv : Nat → Int32) (qc : Nat → Int32) (p1 : Int32)  (x7 : Int32) (z0 : Int32) (lr : Nat → Int32) (lq : Nat → Int32) (mt : Nat → Int32) (mv : Nat → Int32) (sw : Nat → Int32) (hv : Int32) (tk : Nat → Int32) : Option (Int32 × (Nat → Int32) × (Nat → Int32) × (Nat → Int32) × (Nat → Int32) × (Nat → Int32) × Int32 × (Nat → Int32)) :=
  kv_G ((6 * p1) + 2) 60 (kv_T (upd lr ((6 * p1) + 2).toNatClampNeg x7) (fun g_168 => kv_B z0 (some (z0, g_168, lq, mt, mv, sw, hv, tk))))
def pf_L_spare_100 (lm : Nat → Int32) (lp : Nat → Int32) (kc : Nat → Int32) (kh : Nat → Int32) (fo : Nat → Nat → Int32) (kp : Nat → Int32) (n : Nat) (qp : Nat → Int32) (qm : Nat → Int32) (qv : Nat → Int32) (qc : Nat → Int32) (p1 : Int32)  (x6 : Int32) (x7 : Int32) (x8 : Int32) (z0 : Int32) (lr : Nat → Int32) (lq : Nat → Int32) (mt : Nat → Int32) (mv : Nat → Int32) (sw : Nat → Int32) (hv : Int32) (tk : Nat → Int32) : Option (Int32 × (Nat → Int32) × (Nat → Int32) × (Nat → Int32) × (Nat → Int32) × (Nat → Int32) × Int32 × (Nat → Int32)) :=
  kv_G ((6 * p1) + 2) 60 (kv_T (upd lr ((6 * p1) + 2).toNatClampNeg ((x7 - x6) - 1)) (fun g_117 => if z0 = 0 then pf_L_spare_156 lm lp kc kh fo kp n qp qm qv qc p1 x7 0 g_117 lq mt mv sw hv tk else if x6 = x7 then pf_L_spare_156 lm lp kc kh fo kp n qp qm qv qc p1 x7 1 g_117 lq mt mv sw hv tk else kv_G (6 * p1) 60 (kv_T (g_117 (6 * p1).toNatClampNeg) (fun y_136 => kv_q2 (pf_L_gap lm lp g_117 y_136 lq) (fun r_143 u_143 => if r_143 ≤ x8 then pf_L_spare_156 lm lp kc kh fo kp n qp qm qv qc p1 x7 0 g_117 u_143 mt mv sw hv tk else pf_L_spare_156 lm lp kc kh fo kp n qp qm qv qc p1 x7 1 g_117 u_143 mt mv sw hv tk)))))
def pf_L_spare_53 (lm : Nat → Int32) (lp : Nat → Int32) (kc : Nat → Int32) (kh : Nat → Int32) (fo : Nat → Nat → Int32) (kp : Nat → Int32) (n : Nat) (qp : Nat → Int32) (qm : Nat → Int32) (qv : Nat → Int32) (qc : Nat → Int32) (p1 : Int32)  (x6 : Int32) (x7 : Int32) (x8 : Int32) (z0 : Int32) (lr : Nat → Int32) (lq : Nat → Int32) (mt : Nat → Int32) (mv : Nat → Int32) (sw : Nat → Int32) (hv : Int32) (tk : Nat → Int32) : Option (Int32 × (Nat → Int32) × (Nat → Int32) × (Nat → Int32) × (Nat → Int32) × (Nat → Int32) × Int32 × (Nat → Int32)) :=
  kv_G ((6 * p1) + 2) 60 (kv_T (upd lr ((6 * p1) + 2).toNatClampNeg (x7 - x6)) (fun g_68 => if z0 = 0 then pf_L_spare_100 lm lp kc kh fo kp n qp qm qv qc p1 x6 x7 x8 0 g_68 lq mt mv sw hv tk else kv_G (6 * p1) 60 (kv_T (g_68 (6 * p1).toNatClampNeg) (fun y_80 => kv_q2 (pf_L_gap lm lp g_68 y_80 lq) (fun r_87 u_87 => if r_87 = x8 then pf_L_spare_100 lm lp kc kh fo kp n qp qm qv qc p1 x6 x7 x8 1 g_68 u_87 mt mv sw hv tk else pf_L_spare_100 lm lp kc kh fo kp n qp qm qv qc p1 x6 x7 x8 0 g_68 u_87 mt mv sw hv tk)))))
def pf_L_spare (lm : Nat → Int32) (lp : Nat → Int32) (kc : Nat → Int32) (kh : Nat → Int32) (fo : Nat → Nat → Int32) (kp : Nat → Int32) (n : Nat) (qp : Nat → Int32) (qm : Nat → Int32) (qv : Nat → Int32) (qc : Nat → Int32) (p1 : Int32) (lr : Nat → Int32) (lq : Nat → Int32) (mt : Nat → Int32) (mv : Nat → Int32) (sw : Nat → Int32) (hv : Int32) (tk : Nat → Int32) : Option (Int32 × (Nat → Int32) × (Nat → Int32) × (Nat → Int32) × (Nat → Int32) × (Nat → Int32) × Int32 × (Nat → Int32)) :=
  kv_q6 (pf_X2n_spare kc kh fo kp n qp qm qv qc p1 mt mv sw hv tk) (fun r_2 o0_2 o1_2 o2_2 o3_2 o4_2 => kv_G ((6 * p1) + 2) 60 (kv_T (lr ((6 * p1) + 2).toNatClampNeg) (fun y_15 => kv_G (6 * p1) 60 (kv_T (lr (6 * p1).toNatClampNeg) (fun y_24 => kv_q2 (pf_L_gap lm lp lr y_24 lq) (fun r_31 u_31 => if r_2 < 0 then pf_L_spare_53 lm lp kc kh fo kp n qp qm qv qc p1 r_2 y_15 r_31 0 lr u_31 o0_2 o1_2 o2_2 o3_2 o4_2 else if y_15 < r_2 then pf_L_spare_53 lm lp kc kh fo kp n qp qm qv qc p1 r_2 y_15 r_31 0 lr u_31 o0_2 o1_2 o2_2 o3_2 o4_2 else pf_L_spare_53 lm lp kc kh fo kp n qp qm qv qc p1 r_2 y_15 r_31 1 lr u_31 o0_2 o1_2 o2_2 o3_2 o4_2))))))
abbrev rmL_spare : Room := { frames := 5, cells := 0, slots := 0, locals := 113 }
set_option maxHeartbeats 8000000 in
set_option maxRecDepth 100000 in
theorem c_L_spare (l : Launch) (D : va_G) (ci la ad : Nat → Nat) (lm : Nat → Int32) (lp : Nat → Int32) (lr : Nat → Int32) (lq : Nat → Int32) (kc : Nat → Int32) (kh : Nat → Int32) (ks : Nat → Int32) (fo : Nat → Nat → Int32) (kl : Nat → Int32) (kp : Nat → Int32) (dy : Int32) (mo : Int32) (n : Nat) (pa : Nat → Nat) (aE : Nat) (qp : Nat → Int32) (qm : Nat → Int32) (ql : Nat → Int32) (qv : Nat → Int32) (qc : Nat → Int32) (qe : Nat → Int32) (mt : Nat → Int32) (mv : Nat → Int32) (sw : Nat → Int32) (hv : Int32) (tk : Nat → Int32) (tn : Nat → Int32) (sc : Nat → Int32) (p1 : Int32) (hRn : pf_L_spare lm lp kc kh fo kp n qp qm qv qc p1 lr lq mt mv sw hv tk ≠ none) (sz : Nat) : Met l yL_spare wsL_spare rmL_spare (va_Pc [.ref (ad 0), .int p1, .ref (la 0), .ref (la 1), .ref (la 2), .ref (la 3)] (kv_pre D ci (kv_lkw ci la ad lm lp lr lq kc kh ks fo kl kp dy mo n pa aE qp qm ql qv qc qe mt mv sw hv tk tn sc) sz)) (va_Qi (fun (r : Int32) (u : (Nat → Int32) × (Nat → Int32) × (Nat → Int32) × (Nat → Int32) × (Nat → Int32) × Int32 × (Nat → Int32)) => pf_L_spare lm lp kc kh fo kp n qp qm qv qc p1 lr lq mt mv sw hv tk = some (r, u.1, u.2.1, u.2.2.1, u.2.2.2.1, u.2.2.2.2.1, u.2.2.2.2.2.1, u.2.2.2.2.2.2)) (fun u t => kv_post D (kv_lkw ci la ad lm lp lr lq kc kh ks fo kl kp dy mo n pa aE qp qm ql qv qc qe mt mv sw hv tk tn sc) sz (kv_lkw ci la ad lm lp u.1 u.2.1 kc kh ks fo kl kp dy mo n pa aE qp qm ql qv qc qe u.2.2.1 u.2.2.2.1 u.2.2.2.2.1 u.2.2.2.2.2.1 u.2.2.2.2.2.2 tn sc) t) (va_A (kv_lkw ci la ad lm lp lr lq kc kh ks fo kl kp dy mo n pa aE qp qm ql qv qc qe mt mv sw hv tk tn sc) sz)) 0 0 (va_A (kv_lkw ci la ad lm lp lr lq kc kh ks fo kl kp dy mo n pa aE qp qm ql qv qc qe mt mv sw hv tk tn sc) sz) := by
  refine Met.ofW (cc := cL_spare) (maxL := 10) (ret := (some .boolean)) (by decide) rfl ?_
  intro p en s m args below meth c s₁ B hml hv
  obtain ⟨hv0, hsz, hP, hK, hD0⟩ := hv
  have hx := B.exec
  have hb := B.bytes
  have hr := B.returns
  have hts := atoms_spec (ws := wsL_spare) B.pre
  have hown : s.vm.findClass RL = some m.cls := findClass_of_methodNamed B.named
  have hlocks := B.notSynchronized
  subst hsz
  have hD := hD0.self (sz := s.heap.size)
  generalize hAe : va_A (kv_lkw ci la ad lm lp lr lq kc kh ks fo kl kp dy mo n pa aE qp qm ql qv qc qe mt mv sw hv tk tn sc) s.heap.size = A at hD ⊢
  have hA : ∀ q : Nat, s.heap.size ≤ q → A q := fun q h => by rw [← hAe]; exact Or.inr h
  have hS : va_S A s.heap s.heap [] := va_S.rf
  have hP : va_P D vwCl (kv_lkw ci la ad lm lp lr lq kc kh ks fo kl kp dy mo n pa aE qp qm ql qv qc qe mt mv sw hv tk tn sc) s.heap := hP
  generalize hRd : pf_L_spare lm lp kc kh fo kp n qp qm qv qc p1 lr lq mt mv sw hv tk = Rz at hRn
  have hRz := hRn
  refine kv_Q (fun Q hQ => ?_)
  refine W.eq (show entryFrame m args 10 = _ from by rw [hv0, lg_entry_eq]) ?_
  have hl := lv_entry ([.ref (ad 0), .int p1, .ref (la 0), .ref (la 1), .ref (la 2), .ref (la 3)]) (n := 10) (Nat.le_of_ble_eq_true rfl)
  generalize (lg_sl ([.ref (ad 0), .int p1, .ref (la 0), .ref (la 1), .ref (la 2), .ref (la 3)]) ++ List.replicate (10 - (lg_sl ([.ref (ad 0), .int p1, .ref (la 0), .ref (la 1), .ref (la 2), .ref (la 3)])).length) Slot.unset).toArray = ls at hl ⊢
  have hl : lv_has ls 10 [(0, .ref (ad 0)), (1, .int p1), (2, .ref (la 0)), (3, .ref (la 1)), (4, .ref (la 2)), (5, .ref (la 3))] := hl
  have e : Rz = pf_L_spare lm lp kc kh fo kp n qp qm qv qc p1 lr lq mt mv sw hv tk := hRd.symm
  rw [pf_L_spare] at e
  have hb_156 : ∀ (x7 : Int32) (z0 : Int32) (lr : Nat → Int32) (lq : Nat → Int32) (mt : Nat → Int32) (mv : Nat → Int32) (sw : Nat → Int32) (hv : Int32) (tk : Nat → Int32) (H : Heap) (locs : List Loc) (ls : Array Slot), va_P D vwCl (kv_lkw ci la ad lm lp lr lq kc kh ks fo kl kp dy mo n pa aE qp qm ql qv qc qe mt mv sw hv tk tn sc) H → va_D A (kv_lkw ci la ad lm lp lr lq kc kh ks fo kl kp dy mo n pa aE qp qm ql qv qc qe mt mv sw hv tk tn sc) → va_S A s.heap H locs → lv_has ls 10 [(1, .int p1), (4, .ref (la 2)), (7, .int x7)] → Rz = pf_L_spare_156 lm lp kc kh fo kp n qp qm qv qc p1  x7 z0 lr lq mt mv sw hv tk → W p l en rmL_spare s m args below meth c H locs 0 0 Q (F0 m 156 ls [.int z0]) := by
    intro x7 z0 lr lq mt mv sw hv tk H locs ls  hP hD hS hl e
    rw [pf_L_spare_156] at e
    refine lv_istore (lv' := [(9, .int z0), (1, .int p1), (4, .ref (la 2)), (7, .int x7)]) hx hb dL_spare_156 hl (by decide) rfl (fun ls hl => ?_)
    refine lv_aload hx hb dL_spare_158 (lv_at hl 2 rfl) ?_
    refine lv_bipush (v := 6) hx hb dL_spare_160 (by decide) ?_
    refine lv_iload_n hx hb dL_spare_162 rfl (lv_at hl 1 rfl) ?_
    refine lv_imul hx hb dL_spare_163 ?_
    refine lv_iconst (v := 2) hx hb dL_spare_164 (by decide) ?_
    refine lv_iadd hx hb dL_spare_165 ?_
    refine lv_iload hx hb dL_spare_166 (lv_at hl 3 rfl) ?_
    obtain ⟨hi_168, e⟩ := kv_G_e e hRz
    refine kv_iast hx hb hK hP hD hS 2 0 (fun g_168 => (kv_lkw ci la ad lm lp g_168 lq kc kh ks fo kl kp dy mo n pa aE qp qm ql qv qc qe mt mv sw hv tk tn sc)) hi_168 dL_spare_168 rfl rfl (fun _ => rfl) (fun g_168 H locs eg_168 hP hD hS => ?_)
    have e := kv_T_e e eg_168
    refine lv_iload hx hb dL_spare_169 (lv_at hl 0 rfl) ?_
    obtain ⟨hn9, e⟩ := kv_B_e e hRz
    rw [hQ]
    exact W.zret (v := z0) hx hb hr hn9 (fun t ht hW => ⟨⟨z0, (g_168, lq, mt, mv, sw, hv, tk), rfl, e, ⟨by rw [ht]; exact hP, by rw [hAe]; exact hD⟩⟩, hS.F ht⟩) hS.2.2 dL_spare_171
  have hb_100 : ∀ (x6 : Int32) (x7 : Int32) (x8 : Int32) (z0 : Int32) (lr : Nat → Int32) (lq : Nat → Int32) (mt : Nat → Int32) (mv : Nat → Int32) (sw : Nat → Int32) (hv : Int32) (tk : Nat → Int32) (H : Heap) (locs : List Loc) (ls : Array Slot), va_P D vwCl (kv_lkw ci la ad lm lp lr lq kc kh ks fo kl kp dy mo n pa aE qp qm ql qv qc qe mt mv sw hv tk tn sc) H → va_D A (kv_lkw ci la ad lm lp lr lq kc kh ks fo kl kp dy mo n pa aE qp qm ql qv qc qe mt mv sw hv tk tn sc) → va_S A s.heap H locs → lv_has ls 10 [(1, .int p1), (2, .ref (la 0)), (3, .ref (la 1)), (4, .ref (la 2)), (5, .ref (la 3)), (6, .int x6), (7, .int x7), (8, .int x8)] → Rz = pf_L_spare_100 lm lp kc kh fo kp n qp qm qv qc p1  x6 x7 x8 z0 lr lq mt mv sw hv tk → W p l en rmL_spare s m args below meth c H locs 0 0 Q (F0 m 100 ls [.int z0]) := by
    intro x6 x7 x8 z0 lr lq mt mv sw hv tk H locs ls  hP hD hS hl e
    rw [pf_L_spare_100] at e
    refine lv_istore (lv' := [(9, .int z0), (1, .int p1), (2, .ref (la 0)), (3, .ref (la 1)), (4, .ref (la 2)), (5, .ref (la 3)), (6, .int x6), (7, .int x7), (8, .int x8)]) hx hb dL_spare_100 hl (by decide) rfl (fun ls hl => ?_)
    refine lv_aload hx hb dL_spare_102 (lv_at hl 4 rfl) ?_
    refine lv_bipush (v := 6) hx hb dL_spare_104 (by decide) ?_
    refine lv_iload_n hx hb dL_spare_106 rfl (lv_at hl 1 rfl) ?_
    refine lv_imul hx hb dL_spare_107 ?_
    refine lv_iconst (v := 2) hx hb dL_spare_108 (by decide) ?_
    refine lv_iadd hx hb dL_spare_109 ?_
    refine lv_iload hx hb dL_spare_110 (lv_at hl 7 rfl) ?_
    refine lv_iload hx hb dL_spare_112 (lv_at hl 6 rfl) ?_
    refine lv_isub hx hb dL_spare_114 ?_
    refine lv_iconst (v := 1) hx hb dL_spare_115 (by decide) ?_
    refine lv_isub hx hb dL_spare_116 ?_
    obtain ⟨hi_117, e⟩ := kv_G_e e hRz
    refine kv_iast hx hb hK hP hD hS 2 0 (fun g_117 => (kv_lkw ci la ad lm lp g_117 lq kc kh ks fo kl kp dy mo n pa aE qp qm ql qv qc qe mt mv sw hv tk tn sc)) hi_117 dL_spare_117 rfl rfl (fun _ => rfl) (fun g_117 H locs eg_117 hP hD hS => ?_)
    have e := kv_T_e e eg_117
    refine lv_iload hx hb dL_spare_118 (lv_at hl 0 rfl) ?_
    refine lv_if_eq (tgt := 155) hx hb dL_spare_120 (by decide) (fun c_120 => ?_) (fun c_120 => ?_)
    · have e := e.trans (if_pos c_120)
      refine lv_iconst (v := 0) hx hb dL_spare_155 (by decide) ?_
      exact hb_156 x7 0 g_117 lq mt mv sw hv tk _ _ _  hP hD hS (lv_sub hl [1, 4, 7] rfl) e
    · have e := e.trans (if_neg c_120)
      refine lv_iload hx hb dL_spare_123 (lv_at hl 6 rfl) ?_
      refine lv_iload hx hb dL_spare_125 (lv_at hl 7 rfl) ?_
      refine lv_icmp_eq (tgt := 151) hx hb dL_spare_127 (by decide) (fun c_127 => ?_) (fun c_127 => ?_)
      · have e := e.trans (if_pos c_127)
        refine lv_iconst (v := 1) hx hb dL_spare_151 (by decide) ?_
        refine lv_goto (tgt := 156) hx hb dL_spare_152 (by decide) ?_
        exact hb_156 x7 1 g_117 lq mt mv sw hv tk _ _ _  hP hD hS (lv_sub hl [1, 4, 7] rfl) e
      · have e := e.trans (if_neg c_127)
        refine lv_aload hx hb dL_spare_130 (lv_at hl 4 rfl) ?_
        refine lv_bipush (v := 6) hx hb dL_spare_132 (by decide) ?_
        refine lv_iload_n hx hb dL_spare_134 rfl (lv_at hl 1 rfl) ?_
        refine lv_imul hx hb dL_spare_135 ?_
        obtain ⟨hi_136, e⟩ := kv_G_e e hRz
        refine kv_iald hx hb hK hP 2 0 hi_136 dL_spare_136 rfl rfl (fun y_136 ey_136 => ?_)
        have e := kv_T_e e ey_136
        refine lv_aload_n hx hb dL_spare_137 rfl (lv_at hl 2 rfl) ?_
        refine lv_aload_n hx hb dL_spare_138 rfl (lv_at hl 3 rfl) ?_
        refine lv_aload hx hb dL_spare_139 (lv_at hl 4 rfl) ?_
        refine lv_aload hx hb dL_spare_141 (lv_at hl 5 rfl) ?_
        have hP : va_P D vwCl ((kv_lw ci la lm lp g_117 lq) ++ (kv_kw ci ad kc kh ks fo kl kp dy mo n pa aE qp qm ql qv qc qe mt mv sw hv tk tn sc)) H := hP
        have hD : va_D A ((kv_lw ci la lm lp g_117 lq) ++ (kv_kw ci ad kc kh ks fo kl kp dy mo n pa aE qp qm ql qv qc qe mt mv sw hv tk tn sc)) := hD
        refine kv_calliF (va_runS (As := [.int y_136, .ref (la 0), .ref (la 1), .ref (la 2), .ref (la 3)]) (rest := []) ⟨hx, hb, hml, hown, hts⟩ (c_L_gap l D ci la lm lp g_117 lq y_136 (kv_q2_n e hRz) H.size) (va_cwS 5 hts gL_spare_L_gap rfl rfl rfl (by decide +kernel) ⟨Nat.le_of_ble_eq_true rfl, Nat.le_of_ble_eq_true rfl⟩) (kv_preS hK (kv_Pl hP) (kv_Dl hD)) rfl rfl hl.1 rfl (lv_room (Nat.le_of_ble_eq_true rfl)) dL_spare_143 ⟨Nat.le_of_ble_eq_true rfl, Nat.le_of_ble_eq_true rfl⟩) hP hD hS hA (fun r_143 u_143 H locs hw_143 hP hD hS => ?_)
        have e := kv_q2_e e hw_143
        have hP : va_P D vwCl (kv_lkw ci la ad lm lp g_117 u_143 kc kh ks fo kl kp dy mo n pa aE qp qm ql qv qc qe mt mv sw hv tk tn sc) H := hP
        have hD : va_D A (kv_lkw ci la ad lm lp g_117 u_143 kc kh ks fo kl kp dy mo n pa aE qp qm ql qv qc qe mt mv sw hv tk tn sc) := hD
        refine lv_iload hx hb dL_spare_146 (lv_at hl 8 rfl) ?_
        refine lv_icmp_le (tgt := 155) hx hb dL_spare_148 (by decide) (fun c_148 => ?_) (fun c_148 => ?_)
        · have e := e.trans (if_pos c_148)
          refine lv_iconst (v := 0) hx hb dL_spare_155 (by decide) ?_
          exact hb_156 x7 0 g_117 u_143 mt mv sw hv tk _ _ _  hP hD hS (lv_sub hl [1, 4, 7] rfl) e
        · have e := e.trans (if_neg c_148)
          refine lv_iconst (v := 1) hx hb dL_spare_151 (by decide) ?_
          refine lv_goto (tgt := 156) hx hb dL_spare_152 (by decide) ?_
          exact hb_156 x7 1 g_117 u_143 mt mv sw hv tk _ _ _  hP hD hS (lv_sub hl [1, 4, 7] rfl) e
  have hb_53 : ∀ (x6 : Int32) (x7 : Int32) (x8 : Int32) (z0 : Int32) (lr : Nat → Int32) (lq : Nat → Int32) (mt : Nat → Int32) (mv : Nat → Int32) (sw : Nat → Int32) (hv : Int32) (tk : Nat → Int32) (H : Heap) (locs : List Loc) (ls : Array Slot), va_P D vwCl (kv_lkw ci la ad lm lp lr lq kc kh ks fo kl kp dy mo n pa aE qp qm ql qv qc qe mt mv sw hv tk tn sc) H → va_D A (kv_lkw ci la ad lm lp lr lq kc kh ks fo kl kp dy mo n pa aE qp qm ql qv qc qe mt mv sw hv tk tn sc) → va_S A s.heap H locs → lv_has ls 10 [(1, .int p1), (2, .ref (la 0)), (3, .ref (la 1)), (4, .ref (la 2)), (5, .ref (la 3)), (6, .int x6), (7, .int x7), (8, .int x8)] → Rz = pf_L_spare_53 lm lp kc kh fo kp n qp qm qv qc p1  x6 x7 x8 z0 lr lq mt mv sw hv tk → W p l en rmL_spare s m args below meth c H locs 0 0 Q (F0 m 53 ls [.int z0]) := by
    intro x6 x7 x8 z0 lr lq mt mv sw hv tk H locs ls  hP hD hS hl e
    rw [pf_L_spare_53] at e
    refine lv_istore (lv' := [(9, .int z0), (1, .int p1), (2, .ref (la 0)), (3, .ref (la 1)), (4, .ref (la 2)), (5, .ref (la 3)), (6, .int x6), (7, .int x7), (8, .int x8)]) hx hb dL_spare_53 hl (by decide) rfl (fun ls hl => ?_)
    refine lv_aload hx hb dL_spare_55 (lv_at hl 4 rfl) ?_
    refine lv_bipush (v := 6) hx hb dL_spare_57 (by decide) ?_
    refine lv_iload_n hx hb dL_spare_59 rfl (lv_at hl 1 rfl) ?_
    refine lv_imul hx hb dL_spare_60 ?_
    refine lv_iconst (v := 2) hx hb dL_spare_61 (by decide) ?_
    refine lv_iadd hx hb dL_spare_62 ?_
    refine lv_iload hx hb dL_spare_63 (lv_at hl 7 rfl) ?_
    refine lv_iload hx hb dL_spare_65 (lv_at hl 6 rfl) ?_
    refine lv_isub hx hb dL_spare_67 ?_
    obtain ⟨hi_68, e⟩ := kv_G_e e hRz
    refine kv_iast hx hb hK hP hD hS 2 0 (fun g_68 => (kv_lkw ci la ad lm lp g_68 lq kc kh ks fo kl kp dy mo n pa aE qp qm ql qv qc qe mt mv sw hv tk tn sc)) hi_68 dL_spare_68 rfl rfl (fun _ => rfl) (fun g_68 H locs eg_68 hP hD hS => ?_)
    have e := kv_T_e e eg_68
    refine lv_iload hx hb dL_spare_69 (lv_at hl 0 rfl) ?_
    refine lv_if_eq (tgt := 99) hx hb dL_spare_71 (by decide) (fun c_71 => ?_) (fun c_71 => ?_)
    · have e := e.trans (if_pos c_71)
      refine lv_iconst (v := 0) hx hb dL_spare_99 (by decide) ?_
      exact hb_100 x6 x7 x8 0 g_68 lq mt mv sw hv tk _ _ _  hP hD hS (lv_sub hl [1, 2, 3, 4, 5, 6, 7, 8] rfl) e
    · have e := e.trans (if_neg c_71)
      refine lv_aload hx hb dL_spare_74 (lv_at hl 4 rfl) ?_
      refine lv_bipush (v := 6) hx hb dL_spare_76 (by decide) ?_
      refine lv_iload_n hx hb dL_spare_78 rfl (lv_at hl 1 rfl) ?_
      refine lv_imul hx hb dL_spare_79 ?_
      obtain ⟨hi_80, e⟩ := kv_G_e e hRz
      refine kv_iald hx hb hK hP 2 0 hi_80 dL_spare_80 rfl rfl (fun y_80 ey_80 => ?_)
      have e := kv_T_e e ey_80
      refine lv_aload_n hx hb dL_spare_81 rfl (lv_at hl 2 rfl) ?_
      refine lv_aload_n hx hb dL_spare_82 rfl (lv_at hl 3 rfl) ?_
      refine lv_aload hx hb dL_spare_83 (lv_at hl 4 rfl) ?_
      refine lv_aload hx hb dL_spare_85 (lv_at hl 5 rfl) ?_
      have hP : va_P D vwCl ((kv_lw ci la lm lp g_68 lq) ++ (kv_kw ci ad kc kh ks fo kl kp dy mo n pa aE qp qm ql qv qc qe mt mv sw hv tk tn sc)) H := hP
      have hD : va_D A ((kv_lw ci la lm lp g_68 lq) ++ (kv_kw ci ad kc kh ks fo kl kp dy mo n pa aE qp qm ql qv qc qe mt mv sw hv tk tn sc)) := hD
      refine kv_calliF (va_runS (As := [.int y_80, .ref (la 0), .ref (la 1), .ref (la 2), .ref (la 3)]) (rest := []) ⟨hx, hb, hml, hown, hts⟩ (c_L_gap l D ci la lm lp g_68 lq y_80 (kv_q2_n e hRz) H.size) (va_cwS 5 hts gL_spare_L_gap rfl rfl rfl (by decide +kernel) ⟨Nat.le_of_ble_eq_true rfl, Nat.le_of_ble_eq_true rfl⟩) (kv_preS hK (kv_Pl hP) (kv_Dl hD)) rfl rfl hl.1 rfl (lv_room (Nat.le_of_ble_eq_true rfl)) dL_spare_87 ⟨Nat.le_of_ble_eq_true rfl, Nat.le_of_ble_eq_true rfl⟩) hP hD hS hA (fun r_87 u_87 H locs hw_87 hP hD hS => ?_)
      have e := kv_q2_e e hw_87
      have hP : va_P D vwCl (kv_lkw ci la ad lm lp g_68 u_87 kc kh ks fo kl kp dy mo n pa aE qp qm ql qv qc qe mt mv sw hv tk tn sc) H := hP
      have hD : va_D A (kv_lkw ci la ad lm lp g_68 u_87 kc kh ks fo kl kp dy mo n pa aE qp qm ql qv qc qe mt mv sw hv tk tn sc) := hD
      refine lv_iload hx hb dL_spare_90 (lv_at hl 8 rfl) ?_
      refine lv_icmp_ne (tgt := 99) hx hb dL_spare_92 (by decide) (fun c_92 => ?_) (fun c_92 => ?_)
      · have e := e.trans (if_neg c_92)
        refine lv_iconst (v := 0) hx hb dL_spare_99 (by decide) ?_
        exact hb_100 x6 x7 x8 0 g_68 u_87 mt mv sw hv tk _ _ _  hP hD hS (lv_sub hl [1, 2, 3, 4, 5, 6, 7, 8] rfl) e
      · have e := e.trans (if_pos c_92)
        refine lv_iconst (v := 1) hx hb dL_spare_95 (by decide) ?_
        refine lv_goto (tgt := 100) hx hb dL_spare_96 (by decide) ?_
        exact hb_100 x6 x7 x8 1 g_68 u_87 mt mv sw hv tk _ _ _  hP hD hS (lv_sub hl [1, 2, 3, 4, 5, 6, 7, 8] rfl) e
  refine lv_aload_n hx hb dL_spare_0 rfl (lv_at hl 0 rfl) ?_
  refine lv_iload_n hx hb dL_spare_1 rfl (lv_at hl 1 rfl) ?_
  have hP : va_P D vwCl ((kv_kw ci ad kc kh ks fo kl kp dy mo n pa aE qp qm ql qv qc qe mt mv sw hv tk tn sc) ++ (kv_lw ci la lm lp lr lq)) s.heap := kv_commP hP
  have hD : va_D A ((kv_kw ci ad kc kh ks fo kl kp dy mo n pa aE qp qm ql qv qc qe mt mv sw hv tk tn sc) ++ (kv_lw ci la lm lp lr lq)) := kv_commD hD
  refine kv_calliF (va_runV (As := [.int p1]) (rest := []) ⟨hx, hb, hml, hown, hts⟩ (c_X2n_spare l D ci ad kc kh ks fo kl kp dy mo n pa aE qp qm ql qv qc qe mt mv sw hv tk tn sc p1 (kv_q6_n e hRz) s.heap.size) (cwV 1 hts gL_spare_X2_spare rfl rfl rfl (by decide +kernel) ⟨Nat.le_of_ble_eq_true rfl, Nat.le_of_ble_eq_true rfl⟩) (kv_preV hK (kv_Pl hP) (kv_Dl hD) (r := (RX2, TX2, 9)) (q0 := 0) (k := 3) rfl rfl rfl) rfl rfl hl.1 rfl (lv_room (Nat.le_of_ble_eq_true rfl)) dL_spare_2 ⟨Nat.le_of_ble_eq_true rfl, Nat.le_of_ble_eq_true rfl⟩) hP hD hS hA (fun r_2 u_2 H locs hw_2 hP hD hS => ?_)
  obtain ⟨o0_2, o1_2, o2_2, o3_2, o4_2⟩ := u_2
  have e := kv_q6_e e hw_2
  have hP : va_P D vwCl (kv_lkw ci la ad lm lp lr lq kc kh ks fo kl kp dy mo n pa aE qp qm ql qv qc qe o0_2 o1_2 o2_2 o3_2 o4_2 tn sc) H := kv_commP hP
  have hD : va_D A (kv_lkw ci la ad lm lp lr lq kc kh ks fo kl kp dy mo n pa aE qp qm ql qv qc qe o0_2 o1_2 o2_2 o3_2 o4_2 tn sc) := kv_commD hD
  refine lv_istore (lv' := [(6, .int r_2), (0, .ref (ad 0)), (1, .int p1), (2, .ref (la 0)), (3, .ref (la 1)), (4, .ref (la 2)), (5, .ref (la 3))]) hx hb dL_spare_5 hl (by decide) rfl (fun ls hl => ?_)
  refine lv_aload hx hb dL_spare_7 (lv_at hl 5 rfl) ?_
  refine lv_bipush (v := 6) hx hb dL_spare_9 (by decide) ?_
  refine lv_iload_n hx hb dL_spare_11 rfl (lv_at hl 2 rfl) ?_
  refine lv_imul hx hb dL_spare_12 ?_
  refine lv_iconst (v := 2) hx hb dL_spare_13 (by decide) ?_
  refine lv_iadd hx hb dL_spare_14 ?_
  obtain ⟨hi_15, e⟩ := kv_G_e e hRz
  refine kv_iald hx hb hK hP 2 0 hi_15 dL_spare_15 rfl rfl (fun y_15 ey_15 => ?_)
  have e := kv_T_e e ey_15
  refine lv_istore (lv' := [(7, .int y_15), (6, .int r_2), (0, .ref (ad 0)), (1, .int p1), (2, .ref (la 0)), (3, .ref (la 1)), (4, .ref (la 2)), (5, .ref (la 3))]) hx hb dL_spare_16 hl (by decide) rfl (fun ls hl => ?_)
  refine lv_aload hx hb dL_spare_18 (lv_at hl 6 rfl) ?_
  refine lv_bipush (v := 6) hx hb dL_spare_20 (by decide) ?_
  refine lv_iload_n hx hb dL_spare_22 rfl (lv_at hl 3 rfl) ?_
  refine lv_imul hx hb dL_spare_23 ?_
  obtain ⟨hi_24, e⟩ := kv_G_e e hRz
  refine kv_iald hx hb hK hP 2 0 hi_24 dL_spare_24 rfl rfl (fun y_24 ey_24 => ?_)
  have e := kv_T_e e ey_24
  refine lv_aload_n hx hb dL_spare_25 rfl (lv_at hl 4 rfl) ?_
  refine lv_aload_n hx hb dL_spare_26 rfl (lv_at hl 5 rfl) ?_
  refine lv_aload hx hb dL_spare_27 (lv_at hl 6 rfl) ?_
  refine lv_aload hx hb dL_spare_29 (lv_at hl 7 rfl) ?_
  have hP : va_P D vwCl ((kv_lw ci la lm lp lr lq) ++ (kv_kw ci ad kc kh ks fo kl kp dy mo n pa aE qp qm ql qv qc qe o0_2 o1_2 o2_2 o3_2 o4_2 tn sc)) H := hP
  have hD : va_D A ((kv_lw ci la lm lp lr lq) ++ (kv_kw ci ad kc kh ks fo kl kp dy mo n pa aE qp qm ql qv qc qe o0_2 o1_2 o2_2 o3_2 o4_2 tn sc)) := hD
  refine kv_calliF (va_runS (As := [.int y_24, .ref (la 0), .ref (la 1), .ref (la 2), .ref (la 3)]) (rest := []) ⟨hx, hb, hml, hown, hts⟩ (c_L_gap l D ci la lm lp lr lq y_24 (kv_q2_n e hRz) H.size) (va_cwS 5 hts gL_spare_L_gap rfl rfl rfl (by decide +kernel) ⟨Nat.le_of_ble_eq_true rfl, Nat.le_of_ble_eq_true rfl⟩) (kv_preS hK (kv_Pl hP) (kv_Dl hD)) rfl rfl hl.1 rfl (lv_room (Nat.le_of_ble_eq_true rfl)) dL_spare_31 ⟨Nat.le_of_ble_eq_true rfl, Nat.le_of_ble_eq_true rfl⟩) hP hD hS hA (fun r_31 u_31 H locs hw_31 hP hD hS => ?_)
  have e := kv_q2_e e hw_31
  have hP : va_P D vwCl (kv_lkw ci la ad lm lp lr u_31 kc kh ks fo kl kp dy mo n pa aE qp qm ql qv qc qe o0_2 o1_2 o2_2 o3_2 o4_2 tn sc) H := hP
  have hD : va_D A (kv_lkw ci la ad lm lp lr u_31 kc kh ks fo kl kp dy mo n pa aE qp qm ql qv qc qe o0_2 o1_2 o2_2 o3_2 o4_2 tn sc) := hD
  refine lv_istore (lv' := [(8, .int r_31), (7, .int y_15), (6, .int r_2), (0, .ref (ad 0)), (1, .int p1), (2, .ref (la 0)), (3, .ref (la 1)), (4, .ref (la 2)), (5, .ref (la 3))]) hx hb dL_spare_34 hl (by decide) rfl (fun ls hl => ?_)
  refine lv_iload hx hb dL_spare_36 (lv_at hl 2 rfl) ?_
  refine lv_if_lt (tgt := 52) hx hb dL_spare_38 (by decide) (fun c_38 => ?_) (fun c_38 => ?_)
  · have e := e.trans (if_pos c_38)
    refine lv_iconst (v := 0) hx hb dL_spare_52 (by decide) ?_
    exact hb_53 r_2 y_15 r_31 0 lr u_31 o0_2 o1_2 o2_2 o3_2 o4_2 _ _ _  hP hD hS (lv_sub hl [4, 5, 6, 7, 8, 2, 1, 0] rfl) e
  · have e := e.trans (if_neg c_38)
    refine lv_iload hx hb dL_spare_41 (lv_at hl 2 rfl) ?_
    refine lv_iload hx hb dL_spare_43 (lv_at hl 1 rfl) ?_
    refine lv_icmp_gt (tgt := 52) hx hb dL_spare_45 (by decide) (fun c_45 => ?_) (fun c_45 => ?_)
    · have e := e.trans (if_pos c_45)
      refine lv_iconst (v := 0) hx hb dL_spare_52 (by decide) ?_
      exact hb_53 r_2 y_15 r_31 0 lr u_31 o0_2 o1_2 o2_2 o3_2 o4_2 _ _ _  hP hD hS (lv_sub hl [4, 5, 6, 7, 8, 2, 1, 0] rfl) e
    · have e := e.trans (if_neg c_45)
      refine lv_iconst (v := 1) hx hb dL_spare_48 (by decide) ?_
      refine lv_goto (tgt := 53) hx hb dL_spare_49 (by decide) ?_
      exact hb_53 r_2 y_15 r_31 1 lr u_31 o0_2 o1_2 o2_2 o3_2 o4_2 _ _ _  hP hD hS (lv_sub hl [4, 5, 6, 7, 8, 2, 1, 0] rfl) e

def pf_L_isSo_506 (lp : Nat → Int32) (kc : Nat → Int32) (kh : Nat → Int32) (fo : Nat → Nat → Int32) (kl : Nat → Int32) (kp : Nat → Int32) (dy : Int32) (n : Nat) (qp : Nat → Int32) (qm : Nat → Int32) (qv : Nat → Int32) (qc : Nat → Int32) (p1 : Int32)  (x6 : Int32) (lm : Nat → Int32) (lr : Nat → Int32) (lq : Nat → Int32) (ks : Nat → Int32) (mt : Nat → Int32) (mv : Nat → Int32) (sw : Nat → Int32) (hv : Int32) (tk : Nat → Int32) (tn : Nat → Int32) (sc : Nat → Int32) : Option (Int32 × (Nat → Int32) × (Nat → Int32) × (Nat → Int32) × (Nat → Int32) × (Nat → Int32) × (Nat → Int32) × (Nat → Int32) × Int32 × (Nat → Int32) × (Nat → Int32) × (Nat → Int32)) :=
  if x6 = 0 then some (0, lm, lr, lq, ks, mt, mv, sw, hv, tk, tn, sc) else kv_G (1 : Int32) 3 (kv_T (lq (1 : Int32).toNatClampNeg) (fun y_514 => if y_514 = 0 then some (1, lm, lr, lq, ks, mt, mv, sw, hv, tk, tn, sc) else kv_q1 (pf_L_low (p1 >>> (6 &&& 31)) 5) (fun r_523 => if 0 < r_523 then some (1, lm, lr, lq, ks, mt, mv, sw, hv, tk, tn, sc) else kv_G (1 : Int32) 3 (kv_T (lq (1 : Int32).toNatClampNeg) (fun y_537 => kv_q1 (pf_L_low (p1 >>> (8 &&& 31)) y_537) (fun r_538 => kv_q8 (pf_L_spare lm lp kc kh fo kp n qp qm qv qc r_538 lr lq mt mv sw hv tk) (fun r_547 o0_547 o1_547 o2_547 o3_547 o4_547 o5_547 o6_547 => if r_547 = 0 then some (0, lm, o0_547, o1_547, ks, o2_547, o3_547, o4_547, o5_547, o6_547, tn, sc) else some (1, lm, o0_547, o1_547, ks, o2_547, o3_547, o4_547, o5_547, o6_547, tn, sc))))))))
def pf_L_isSo_504 (lp : Nat → Int32) (kc : Nat → Int32) (kh : Nat → Int32) (fo : Nat → Nat → Int32) (kl : Nat → Int32) (kp : Nat → Int32) (dy : Int32) (n : Nat) (qp : Nat → Int32) (qm : Nat → Int32) (qv : Nat → Int32) (qc : Nat → Int32) (p1 : Int32)  (z0 : Int32) (lm : Nat → Int32) (lr : Nat → Int32) (lq : Nat → Int32) (ks : Nat → Int32) (mt : Nat → Int32) (mv : Nat → Int32) (sw : Nat → Int32) (hv : Int32) (tk : Nat → Int32) (tn : Nat → Int32) (sc : Nat → Int32) : Option (Int32 × (Nat → Int32) × (Nat → Int32) × (Nat → Int32) × (Nat → Int32) × (Nat → Int32) × (Nat → Int32) × (Nat → Int32) × Int32 × (Nat → Int32) × (Nat → Int32) × (Nat → Int32)) :=
  pf_L_isSo_506 lp kc kh fo kl kp dy n qp qm qv qc p1 z0 lm lr lq ks mt mv sw hv tk tn sc
def pf_L_isSo_469 (lp : Nat → Int32) (kc : Nat → Int32) (kh : Nat → Int32) (fo : Nat → Nat → Int32) (kl : Nat → Int32) (kp : Nat → Int32) (dy : Int32) (n : Nat) (qp : Nat → Int32) (qm : Nat → Int32) (qv : Nat → Int32) (qc : Nat → Int32) (p1 : Int32)  (x7 : Int32) (x9 : Int32) (x10 : Int32) (x12 : Int32) (z0 : Int32) (lm : Nat → Int32) (lr : Nat → Int32) (lq : Nat → Int32) (ks : Nat → Int32) (mt : Nat → Int32) (mv : Nat → Int32) (sw : Nat → Int32) (hv : Int32) (tk : Nat → Int32) (tn : Nat → Int32) (sc : Nat → Int32) : Option (Int32 × (Nat → Int32) × (Nat → Int32) × (Nat → Int32) × (Nat → Int32) × (Nat → Int32) × (Nat → Int32) × (Nat → Int32) × Int32 × (Nat → Int32) × (Nat → Int32) × (Nat → Int32)) :=
  kv_G ((4 * x9) + 1) 20 (kv_T (upd lm ((4 * x9) + 1).toNatClampNeg x12) (fun g_480 => kv_q7 (pf_L_calls_6 kc kh fo kp n qp qm qv qc x7 x9 x10 0 ks mt mv sw hv tk) (fun r_491 o0_491 o1_491 o2_491 o3_491 o4_491 o5_491 => if r_491 = z0 then pf_L_isSo_504 lp kc kh fo kl kp dy n qp qm qv qc p1 1 g_480 lr lq o0_491 o1_491 o2_491 o3_491 o4_491 o5_491 tn sc else pf_L_isSo_504 lp kc kh fo kl kp dy n qp qm qv qc p1 0 g_480 lr lq o0_491 o1_491 o2_491 o3_491 o4_491 o5_491 tn sc)))
def pf_L_isSo_447 (lp : Nat → Int32) (kc : Nat → Int32) (kh : Nat → Int32) (fo : Nat → Nat → Int32) (kl : Nat → Int32) (kp : Nat → Int32) (dy : Int32) (n : Nat) (qp : Nat → Int32) (qm : Nat → Int32) (qv : Nat → Int32) (qc : Nat → Int32) (p1 : Int32)  (x7 : Int32) (x9 : Int32) (x10 : Int32) (x11 : Int32) (x12 : Int32) (z1 : Int32) (z2 : Int32) (lm : Nat → Int32) (lr : Nat → Int32) (lq : Nat → Int32) (ks : Nat → Int32) (mt : Nat → Int32) (mv : Nat → Int32) (sw : Nat → Int32) (hv : Int32) (tk : Nat → Int32) (tn : Nat → Int32) (sc : Nat → Int32) : Option (Int32 × (Nat → Int32) × (Nat → Int32) × (Nat → Int32) × (Nat → Int32) × (Nat → Int32) × (Nat → Int32) × (Nat → Int32) × Int32 × (Nat → Int32) × (Nat → Int32) × (Nat → Int32)) :=
  kv_G z1 20 (kv_T (upd lm z1.toNatClampNeg z2) (fun g_447 => if 0 ≤ x11 then kv_q2 (pf_L_gap g_447 lp lr x7 lq) (fun r_466 u_466 => pf_L_isSo_469 lp kc kh fo kl kp dy n qp qm qv qc p1 x7 x9 x10 x12 r_466 g_447 lr u_466 ks mt mv sw hv tk tn sc) else pf_L_isSo_469 lp kc kh fo kl kp dy n qp qm qv qc p1 x7 x9 x10 x12 x11 g_447 lr lq ks mt mv sw hv tk tn sc))
def pf_L_isSo_370 (lp : Nat → Int32) (kc : Nat → Int32) (kh : Nat → Int32) (fo : Nat → Nat → Int32) (kl : Nat → Int32) (kp : Nat → Int32) (dy : Int32) (n : Nat) (qp : Nat → Int32) (qm : Nat → Int32) (qv : Nat → Int32) (qc : Nat → Int32) (p1 : Int32)  (x6 : Int32) (x7 : Int32) (lm : Nat → Int32) (lr : Nat → Int32) (lq : Nat → Int32) (ks : Nat → Int32) (mt : Nat → Int32) (mv : Nat → Int32) (sw : Nat → Int32) (hv : Int32) (tk : Nat → Int32) (tn : Nat → Int32) (sc : Nat → Int32) : Option (Int32 × (Nat → Int32) × (Nat → Int32) × (Nat → Int32) × (Nat → Int32) × (Nat → Int32) × (Nat → Int32) × (Nat → Int32) × Int32 × (Nat → Int32) × (Nat → Int32) × (Nat → Int32)) :=
  if x6 = 0 then pf_L_isSo_506 lp kc kh fo kl kp dy n qp qm qv qc p1 x6 lm lr lq ks mt mv sw hv tk tn sc else kv_q1 (pf_L_low (p1 >>> (5 &&& 31)) 4) (fun r_379 => if r_379 = 0 then kv_q1 (pf_L_low (p1 >>> (7 &&& 31)) 5) (fun r_390 => kv_q1 (pf_L_low (p1 >>> (9 &&& 31)) 6) (fun r_401 => kv_T (r_401 - 1) (fun y_406 => kv_q1 (pf_L_refuses lm r_390 y_406) (fun r_413 => kv_G ((4 * r_390) + 1) 20 (kv_T (lm ((4 * r_390) + 1).toNatClampNeg) (fun y_425 => if 0 ≤ r_413 then pf_L_isSo_447 lp kc kh fo kl kp dy n qp qm qv qc p1 x7 r_390 y_406 r_413 y_425 ((4 * r_390) + 1) y_406 lm lr lq ks mt mv sw hv tk tn sc else pf_L_isSo_447 lp kc kh fo kl kp dy n qp qm qv qc p1 x7 r_390 y_406 r_413 y_425 ((4 * r_390) + 1) y_425 lm lr lq ks mt mv sw hv tk tn sc)))))) else pf_L_isSo_506 lp kc kh fo kl kp dy n qp qm qv qc p1 x6 lm lr lq ks mt mv sw hv tk tn sc)
def pf_L_isSo_368 (lp : Nat → Int32) (kc : Nat → Int32) (kh : Nat → Int32) (fo : Nat → Nat → Int32) (kl : Nat → Int32) (kp : Nat → Int32) (dy : Int32) (n : Nat) (qp : Nat → Int32) (qm : Nat → Int32) (qv : Nat → Int32) (qc : Nat → Int32) (p1 : Int32)  (x7 : Int32) (z0 : Int32) (lm : Nat → Int32) (lr : Nat → Int32) (lq : Nat → Int32) (ks : Nat → Int32) (mt : Nat → Int32) (mv : Nat → Int32) (sw : Nat → Int32) (hv : Int32) (tk : Nat → Int32) (tn : Nat → Int32) (sc : Nat → Int32) : Option (Int32 × (Nat → Int32) × (Nat → Int32) × (Nat → Int32) × (Nat → Int32) × (Nat → Int32) × (Nat → Int32) × (Nat → Int32) × Int32 × (Nat → Int32) × (Nat → Int32) × (Nat → Int32)) :=
  pf_L_isSo_370 lp kc kh fo kl kp dy n qp qm qv qc p1 z0 x7 lm lr lq ks mt mv sw hv tk tn sc
def pf_L_isSo_360 (lp : Nat → Int32) (kc : Nat → Int32) (kh : Nat → Int32) (fo : Nat → Nat → Int32) (kl : Nat → Int32) (kp : Nat → Int32) (dy : Int32) (n : Nat) (qp : Nat → Int32) (qm : Nat → Int32) (qv : Nat → Int32) (qc : Nat → Int32) (p1 : Int32)  (x7 : Int32) (z0 : Int32) (z1 : Int32) (lm : Nat → Int32) (lr : Nat → Int32) (lq : Nat → Int32) (ks : Nat → Int32) (mt : Nat → Int32) (mv : Nat → Int32) (sw : Nat → Int32) (hv : Int32) (tk : Nat → Int32) (tn : Nat → Int32) (sc : Nat → Int32) : Option (Int32 × (Nat → Int32) × (Nat → Int32) × (Nat → Int32) × (Nat → Int32) × (Nat → Int32) × (Nat → Int32) × (Nat → Int32) × Int32 × (Nat → Int32) × (Nat → Int32) × (Nat → Int32)) :=
  if z0 = z1 then pf_L_isSo_368 lp kc kh fo kl kp dy n qp qm qv qc p1 x7 1 lm lr lq ks mt mv sw hv tk tn sc else pf_L_isSo_368 lp kc kh fo kl kp dy n qp qm qv qc p1 x7 0 lm lr lq ks mt mv sw hv tk tn sc
def pf_L_isSo_311 (lp : Nat → Int32) (kc : Nat → Int32) (kh : Nat → Int32) (fo : Nat → Nat → Int32) (kl : Nat → Int32) (kp : Nat → Int32) (dy : Int32) (n : Nat) (qp : Nat → Int32) (qm : Nat → Int32) (qv : Nat → Int32) (qc : Nat → Int32) (p1 : Int32)  (x7 : Int32) (x8 : Int32) (z0 : Int32) (lm : Nat → Int32) (lr : Nat → Int32) (lq : Nat → Int32) (ks : Nat → Int32) (mt : Nat → Int32) (mv : Nat → Int32) (sw : Nat → Int32) (hv : Int32) (tk : Nat → Int32) (tn : Nat → Int32) (sc : Nat → Int32) : Option (Int32 × (Nat → Int32) × (Nat → Int32) × (Nat → Int32) × (Nat → Int32) × (Nat → Int32) × (Nat → Int32) × (Nat → Int32) × Int32 × (Nat → Int32) × (Nat → Int32) × (Nat → Int32)) :=
  if z0 = 0 then pf_L_isSo_370 lp kc kh fo kl kp dy n qp qm qv qc p1 z0 x7 lm lr lq ks mt mv sw hv tk tn sc else kv_q1 (pf_L_low (p1 >>> (4 &&& 31)) 8) (fun r_323 => if r_323 = 0 then kv_q8 (pf_L_calls_5 kc kh fo kp n qp qm qv qc x7 0 0 0 mt mv sw hv tk tn sc) (fun r_336 o0_336 o1_336 o2_336 o3_336 o4_336 o5_336 o6_336 => kv_q1 (pf_L_many lr lq x7) (fun r_345 => if r_345 ≤ 2 then pf_L_isSo_360 lp kc kh fo kl kp dy n qp qm qv qc p1 x7 r_336 x8 lm lr lq ks o0_336 o1_336 o2_336 o3_336 o4_336 o5_336 o6_336 else pf_L_isSo_360 lp kc kh fo kl kp dy n qp qm qv qc p1 x7 r_336 (-2003) lm lr lq ks o0_336 o1_336 o2_336 o3_336 o4_336 o5_336 o6_336)) else pf_L_isSo_370 lp kc kh fo kl kp dy n qp qm qv qc p1 z0 x7 lm lr lq ks mt mv sw hv tk tn sc)
def pf_L_isSo_242 (lp : Nat → Int32) (kc : Nat → Int32) (kh : Nat → Int32) (fo : Nat → Nat → Int32) (kl : Nat → Int32) (kp : Nat → Int32) (dy : Int32) (n : Nat) (qp : Nat → Int32) (qm : Nat → Int32) (qv : Nat → Int32) (qc : Nat → Int32) (p1 : Int32)  (x6 : Int32) (lm : Nat → Int32) (lr : Nat → Int32) (lq : Nat → Int32) (ks : Nat → Int32) (mt : Nat → Int32) (mv : Nat → Int32) (sw : Nat → Int32) (hv : Int32) (tk : Nat → Int32) (tn : Nat → Int32) (sc : Nat → Int32) : Option (Int32 × (Nat → Int32) × (Nat → Int32) × (Nat → Int32) × (Nat → Int32) × (Nat → Int32) × (Nat → Int32) × (Nat → Int32) × Int32 × (Nat → Int32) × (Nat → Int32) × (Nat → Int32)) :=
  kv_q1 (pf_L_low p1 2) (fun r_244 => kv_q2 (pf_L_gap lm lp lr r_244 lq) (fun r_257 u_257 => if x6 = 0 then pf_L_isSo_311 lp kc kh fo kl kp dy n qp qm qv qc p1 r_244 r_257 0 lm lr u_257 ks mt mv sw hv tk tn sc else kv_q1 (pf_X2n_latest kl r_244) (fun r_270 => kv_G (2 * r_244) 4 (kv_T (lp (2 * r_244).toNatClampNeg) (fun y_278 => if r_270 = y_278 then kv_q6 (pf_X2n_gap kc kh fo kp n qp qm qv qc r_244 mt mv sw hv tk) (fun r_285 o0_285 o1_285 o2_285 o3_285 o4_285 => if r_285 = r_257 then kv_q6 (pf_X2n_uncovered kc kh fo kp n qp qm qv qc r_244 o0_285 o1_285 o2_285 o3_285 o4_285) (fun r_296 o0_296 o1_296 o2_296 o3_296 o4_296 => kv_G (2 : Int32) 3 (kv_T (u_257 (2 : Int32).toNatClampNeg) (fun y_302 => if r_296 = y_302 then pf_L_isSo_311 lp kc kh fo kl kp dy n qp qm qv qc p1 r_244 r_257 1 lm lr u_257 ks o0_296 o1_296 o2_296 o3_296 o4_296 tn sc else pf_L_isSo_311 lp kc kh fo kl kp dy n qp qm qv qc p1 r_244 r_257 0 lm lr u_257 ks o0_296 o1_296 o2_296 o3_296 o4_296 tn sc))) else pf_L_isSo_311 lp kc kh fo kl kp dy n qp qm qv qc p1 r_244 r_257 0 lm lr u_257 ks o0_285 o1_285 o2_285 o3_285 o4_285 tn sc) else pf_L_isSo_311 lp kc kh fo kl kp dy n qp qm qv qc p1 r_244 r_257 0 lm lr u_257 ks mt mv sw hv tk tn sc)))))
def pf_L_isSo_234 (lp : Nat → Int32) (kc : Nat → Int32) (kh : Nat → Int32) (fo : Nat → Nat → Int32) (kl : Nat → Int32) (kp : Nat → Int32) (dy : Int32) (n : Nat) (qp : Nat → Int32) (qm : Nat → Int32) (qv : Nat → Int32) (qc : Nat → Int32) (p1 : Int32) (k_146 : Int32 → Int32 → (Nat → Int32) → (Nat → Int32) → (Nat → Int32) → (Nat → Int32) → (Nat → Int32) → (Nat → Int32) → (Nat → Int32) → Int32 → (Nat → Int32) → (Nat → Int32) → (Nat → Int32) → Option (Int32 × (Nat → Int32) × (Nat → Int32) × (Nat → Int32) × (Nat → Int32) × (Nat → Int32) × (Nat → Int32) × (Nat → Int32) × Int32 × (Nat → Int32) × (Nat → Int32) × (Nat → Int32))) (x7 : Int32) (z0 : Int32) (lm : Nat → Int32) (lr : Nat → Int32) (lq : Nat → Int32) (ks : Nat → Int32) (mt : Nat → Int32) (mv : Nat → Int32) (sw : Nat → Int32) (hv : Int32) (tk : Nat → Int32) (tn : Nat → Int32) (sc : Nat → Int32) : Option (Int32 × (Nat → Int32) × (Nat → Int32) × (Nat → Int32) × (Nat → Int32) × (Nat → Int32) × (Nat → Int32) × (Nat → Int32) × Int32 × (Nat → Int32) × (Nat → Int32) × (Nat → Int32)) :=
  k_146 z0 (x7 + 1) lm lr lq ks mt mv sw hv tk tn sc
def pf_L_isSo_146b (lp : Nat → Int32) (kc : Nat → Int32) (kh : Nat → Int32) (fo : Nat → Nat → Int32) (kl : Nat → Int32) (kp : Nat → Int32) (dy : Int32) (n : Nat) (qp : Nat → Int32) (qm : Nat → Int32) (qv : Nat → Int32) (qc : Nat → Int32) (p1 : Int32)  (k_146 : Int32 → Int32 → (Nat → Int32) → (Nat → Int32) → (Nat → Int32) → (Nat → Int32) → (Nat → Int32) → (Nat → Int32) → (Nat → Int32) → Int32 → (Nat → Int32) → (Nat → Int32) → (Nat → Int32) → Option (Int32 × (Nat → Int32) × (Nat → Int32) × (Nat → Int32) × (Nat → Int32) × (Nat → Int32) × (Nat → Int32) × (Nat → Int32) × Int32 × (Nat → Int32) × (Nat → Int32) × (Nat → Int32))) (x6 : Int32) (x7 : Int32) (lm : Nat → Int32) (lr : Nat → Int32) (lq : Nat → Int32) (ks : Nat → Int32) (mt : Nat → Int32) (mv : Nat → Int32) (sw : Nat → Int32) (hv : Int32) (tk : Nat → Int32) (tn : Nat → Int32) (sc : Nat → Int32) : Option (Int32 × (Nat → Int32) × (Nat → Int32) × (Nat → Int32) × (Nat → Int32) × (Nat → Int32) × (Nat → Int32) × (Nat → Int32) × Int32 × (Nat → Int32) × (Nat → Int32) × (Nat → Int32)) :=
  kv_G (1 : Int32) 3 (kv_T (lq (1 : Int32).toNatClampNeg) (fun y_151 => if y_151 ≤ x7 then pf_L_isSo_242 lp kc kh fo kl kp dy n qp qm qv qc p1 x6 lm lr lq ks mt mv sw hv tk tn sc else if x6 = 0 then pf_L_isSo_242 lp kc kh fo kl kp dy n qp qm qv qc p1 x6 lm lr lq ks mt mv sw hv tk tn sc else kv_q1 (pf_L_low (p1 >>> (x7 &&& 31)) 5) (fun r_165 => kv_q1 (pf_X2n_countOf n qc x7) (fun r_173 => kv_G ((6 * x7) + 2) 60 (kv_T (lr ((6 * x7) + 2).toNatClampNeg) (fun y_185 => if r_173 = y_185 then kv_q1 (pf_X2n_versionOf n qv x7) (fun r_192 => kv_G ((6 * x7) + 4) 60 (kv_T (lr ((6 * x7) + 4).toNatClampNeg) (fun y_204 => if r_192 = y_204 then kv_q1 (pf_X2n_covers kh fo n qp qm qv x7 r_165) (fun r_213 => kv_q1 (pf_L_covers lm lr x7 r_165) (fun r_223 => if r_213 = r_223 then pf_L_isSo_234 lp kc kh fo kl kp dy n qp qm qv qc p1 k_146 x7 1 lm lr lq ks mt mv sw hv tk tn sc else pf_L_isSo_234 lp kc kh fo kl kp dy n qp qm qv qc p1 k_146 x7 0 lm lr lq ks mt mv sw hv tk tn sc)) else pf_L_isSo_234 lp kc kh fo kl kp dy n qp qm qv qc p1 k_146 x7 0 lm lr lq ks mt mv sw hv tk tn sc))) else pf_L_isSo_234 lp kc kh fo kl kp dy n qp qm qv qc p1 k_146 x7 0 lm lr lq ks mt mv sw hv tk tn sc))))))
def pf_L_isSo_146 (lp : Nat → Int32) (kc : Nat → Int32) (kh : Nat → Int32) (fo : Nat → Nat → Int32) (kl : Nat → Int32) (kp : Nat → Int32) (dy : Int32) (n : Nat) (qp : Nat → Int32) (qm : Nat → Int32) (qv : Nat → Int32) (qc : Nat → Int32) (p1 : Int32)  : Nat → Int32 → Int32 → (Nat → Int32) → (Nat → Int32) → (Nat → Int32) → (Nat → Int32) → (Nat → Int32) → (Nat → Int32) → (Nat → Int32) → Int32 → (Nat → Int32) → (Nat → Int32) → (Nat → Int32) → Option (Int32 × (Nat → Int32) × (Nat → Int32) × (Nat → Int32) × (Nat → Int32) × (Nat → Int32) × (Nat → Int32) × (Nat → Int32) × Int32 × (Nat → Int32) × (Nat → Int32) × (Nat → Int32))
  | 0, _, _, _, _, _, _, _, _, _, _, _, _, _ => none
  | nn + 1, x6, x7, lm, lr, lq, ks, mt, mv, sw, hv, tk, tn, sc => pf_L_isSo_146b lp kc kh fo kl kp dy n qp qm qv qc p1  (pf_L_isSo_146 lp kc kh fo kl kp dy n qp qm qv qc p1  nn) x6 x7 lm lr lq ks mt mv sw hv tk tn sc
def pf_L_isSo_143 (lp : Nat → Int32) (kc : Nat → Int32) (kh : Nat → Int32) (fo : Nat → Nat → Int32) (kl : Nat → Int32) (kp : Nat → Int32) (dy : Int32) (n : Nat) (qp : Nat → Int32) (qm : Nat → Int32) (qv : Nat → Int32) (qc : Nat → Int32) (p1 : Int32)  (x6 : Int32) (lm : Nat → Int32) (lr : Nat → Int32) (lq : Nat → Int32) (ks : Nat → Int32) (mt : Nat → Int32) (mv : Nat → Int32) (sw : Nat → Int32) (hv : Int32) (tk : Nat → Int32) (tn : Nat → Int32) (sc : Nat → Int32) : Option (Int32 × (Nat → Int32) × (Nat → Int32) × (Nat → Int32) × (Nat → Int32) × (Nat → Int32) × (Nat → Int32) × (Nat → Int32) × Int32 × (Nat → Int32) × (Nat → Int32) × (Nat → Int32)) :=
  pf_L_isSo_146 lp kc kh fo kl kp dy n qp qm qv qc p1 kv_F x6 0 lm lr lq ks mt mv sw hv tk tn sc
def pf_L_isSo_135 (lp : Nat → Int32) (kc : Nat → Int32) (kh : Nat → Int32) (fo : Nat → Nat → Int32) (kl : Nat → Int32) (kp : Nat → Int32) (dy : Int32) (n : Nat) (qp : Nat → Int32) (qm : Nat → Int32) (qv : Nat → Int32) (qc : Nat → Int32) (p1 : Int32) (k_32 : Int32 → Int32 → (Nat → Int32) → (Nat → Int32) → (Nat → Int32) → (Nat → Int32) → (Nat → Int32) → (Nat → Int32) → (Nat → Int32) → Int32 → (Nat → Int32) → (Nat → Int32) → (Nat → Int32) → Option (Int32 × (Nat → Int32) × (Nat → Int32) × (Nat → Int32) × (Nat → Int32) × (Nat → Int32) × (Nat → Int32) × (Nat → Int32) × Int32 × (Nat → Int32) × (Nat → Int32) × (Nat → Int32))) (x7 : Int32) (z0 : Int32) (lm : Nat → Int32) (lr : Nat → Int32) (lq : Nat → Int32) (ks : Nat → Int32) (mt : Nat → Int32) (mv : Nat → Int32) (sw : Nat → Int32) (hv : Int32) (tk : Nat → Int32) (tn : Nat → Int32) (sc : Nat → Int32) : Option (Int32 × (Nat → Int32) × (Nat → Int32) × (Nat → Int32) × (Nat → Int32) × (Nat → Int32) × (Nat → Int32) × (Nat → Int32) × Int32 × (Nat → Int32) × (Nat → Int32) × (Nat → Int32)) :=
  k_32 z0 (x7 + 1) lm lr lq ks mt mv sw hv tk tn sc
def pf_L_isSo_127 (lp : Nat → Int32) (kc : Nat → Int32) (kh : Nat → Int32) (fo : Nat → Nat → Int32) (kl : Nat → Int32) (kp : Nat → Int32) (dy : Int32) (n : Nat) (qp : Nat → Int32) (qm : Nat → Int32) (qv : Nat → Int32) (qc : Nat → Int32) (p1 : Int32) (k_32 : Int32 → Int32 → (Nat → Int32) → (Nat → Int32) → (Nat → Int32) → (Nat → Int32) → (Nat → Int32) → (Nat → Int32) → (Nat → Int32) → Int32 → (Nat → Int32) → (Nat → Int32) → (Nat → Int32) → Option (Int32 × (Nat → Int32) × (Nat → Int32) × (Nat → Int32) × (Nat → Int32) × (Nat → Int32) × (Nat → Int32) × (Nat → Int32) × Int32 × (Nat → Int32) × (Nat → Int32) × (Nat → Int32))) (x7 : Int32) (z0 : Int32) (z1 : Int32) (lm : Nat → Int32) (lr : Nat → Int32) (lq : Nat → Int32) (ks : Nat → Int32) (mt : Nat → Int32) (mv : Nat → Int32) (sw : Nat → Int32) (hv : Int32) (tk : Nat → Int32) (tn : Nat → Int32) (sc : Nat → Int32) : Option (Int32 × (Nat → Int32) × (Nat → Int32) × (Nat → Int32) × (Nat → Int32) × (Nat → Int32) × (Nat → Int32) × (Nat → Int32) × Int32 × (Nat → Int32) × (Nat → Int32) × (Nat → Int32)) :=
  if z0 = z1 then pf_L_isSo_135 lp kc kh fo kl kp dy n qp qm qv qc p1 k_32 x7 1 lm lr lq ks mt mv sw hv tk tn sc else pf_L_isSo_135 lp kc kh fo kl kp dy n qp qm qv qc p1 k_32 x7 0 lm lr lq ks mt mv sw hv tk tn sc
def pf_L_isSo_92 (lp : Nat → Int32) (kc : Nat → Int32) (kh : Nat → Int32) (fo : Nat → Nat → Int32) (kl : Nat → Int32) (kp : Nat → Int32) (dy : Int32) (n : Nat) (qp : Nat → Int32) (qm : Nat → Int32) (qv : Nat → Int32) (qc : Nat → Int32) (p1 : Int32) (k_32 : Int32 → Int32 → (Nat → Int32) → (Nat → Int32) → (Nat → Int32) → (Nat → Int32) → (Nat → Int32) → (Nat → Int32) → (Nat → Int32) → Int32 → (Nat → Int32) → (Nat → Int32) → (Nat → Int32) → Option (Int32 × (Nat → Int32) × (Nat → Int32) × (Nat → Int32) × (Nat → Int32) × (Nat → Int32) × (Nat → Int32) × (Nat → Int32) × Int32 × (Nat → Int32) × (Nat → Int32) × (Nat → Int32))) (x7 : Int32) (z0 : Int32) (z1 : Int32) (lm : Nat → Int32) (lr : Nat → Int32) (lq : Nat → Int32) (ks : Nat → Int32) (mt : Nat → Int32) (mv : Nat → Int32) (sw : Nat → Int32) (hv : Int32) (tk : Nat → Int32) (tn : Nat → Int32) (sc : Nat → Int32) : Option (Int32 × (Nat → Int32) × (Nat → Int32) × (Nat → Int32) × (Nat → Int32) × (Nat → Int32) × (Nat → Int32) × (Nat → Int32) × Int32 × (Nat → Int32) × (Nat → Int32) × (Nat → Int32)) :=
  if z0 = z1 then kv_q1 (pf_X2n_weight kc fo kp x7 1) (fun r_99 => kv_G ((4 * x7) + 3) 20 (kv_T (lm ((4 * x7) + 3).toNatClampNeg) (fun y_109 => if y_109 ≤ 0 then pf_L_isSo_127 lp kc kh fo kl kp dy n qp qm qv qc p1 k_32 x7 r_99 0 lm lr lq ks mt mv sw hv tk tn sc else kv_G (4 * x7) 20 (kv_T (lm (4 * x7).toNatClampNeg) (fun y_118 => kv_G (3 : Int32) 4 (kv_T (lp (3 : Int32).toNatClampNeg) (fun y_121 => pf_L_isSo_127 lp kc kh fo kl kp dy n qp qm qv qc p1 k_32 x7 r_99 (y_118 * y_121) lm lr lq ks mt mv sw hv tk tn sc))))))) else pf_L_isSo_135 lp kc kh fo kl kp dy n qp qm qv qc p1 k_32 x7 0 lm lr lq ks mt mv sw hv tk tn sc
def pf_L_isSo_32b (lp : Nat → Int32) (kc : Nat → Int32) (kh : Nat → Int32) (fo : Nat → Nat → Int32) (kl : Nat → Int32) (kp : Nat → Int32) (dy : Int32) (n : Nat) (qp : Nat → Int32) (qm : Nat → Int32) (qv : Nat → Int32) (qc : Nat → Int32) (p1 : Int32)  (k_32 : Int32 → Int32 → (Nat → Int32) → (Nat → Int32) → (Nat → Int32) → (Nat → Int32) → (Nat → Int32) → (Nat → Int32) → (Nat → Int32) → Int32 → (Nat → Int32) → (Nat → Int32) → (Nat → Int32) → Option (Int32 × (Nat → Int32) × (Nat → Int32) × (Nat → Int32) × (Nat → Int32) × (Nat → Int32) × (Nat → Int32) × (Nat → Int32) × Int32 × (Nat → Int32) × (Nat → Int32) × (Nat → Int32))) (x6 : Int32) (x7 : Int32) (lm : Nat → Int32) (lr : Nat → Int32) (lq : Nat → Int32) (ks : Nat → Int32) (mt : Nat → Int32) (mv : Nat → Int32) (sw : Nat → Int32) (hv : Int32) (tk : Nat → Int32) (tn : Nat → Int32) (sc : Nat → Int32) : Option (Int32 × (Nat → Int32) × (Nat → Int32) × (Nat → Int32) × (Nat → Int32) × (Nat → Int32) × (Nat → Int32) × (Nat → Int32) × Int32 × (Nat → Int32) × (Nat → Int32) × (Nat → Int32)) :=
  if 5 ≤ x7 then pf_L_isSo_143 lp kc kh fo kl kp dy n qp qm qv qc p1 x6 lm lr lq ks mt mv sw hv tk tn sc else if x6 = 0 then pf_L_isSo_143 lp kc kh fo kl kp dy n qp qm qv qc p1 x6 lm lr lq ks mt mv sw hv tk tn sc else kv_q1 (pf_X2n_hostOf kh x7) (fun r_46 => kv_G ((4 * x7) + 1) 20 (kv_T (lm ((4 * x7) + 1).toNatClampNeg) (fun y_56 => if r_46 = y_56 then kv_q1 (pf_X2n_weight kc fo kp x7 0) (fun r_64 => kv_G ((4 * x7) + 2) 20 (kv_T (lm ((4 * x7) + 2).toNatClampNeg) (fun y_74 => if y_74 ≤ 0 then pf_L_isSo_92 lp kc kh fo kl kp dy n qp qm qv qc p1 k_32 x7 r_64 0 lm lr lq ks mt mv sw hv tk tn sc else kv_G (4 * x7) 20 (kv_T (lm (4 * x7).toNatClampNeg) (fun y_83 => kv_G (1 : Int32) 4 (kv_T (lp (1 : Int32).toNatClampNeg) (fun y_86 => pf_L_isSo_92 lp kc kh fo kl kp dy n qp qm qv qc p1 k_32 x7 r_64 (y_83 * y_86) lm lr lq ks mt mv sw hv tk tn sc))))))) else pf_L_isSo_135 lp kc kh fo kl kp dy n qp qm qv qc p1 k_32 x7 0 lm lr lq ks mt mv sw hv tk tn sc)))
def pf_L_isSo_32 (lp : Nat → Int32) (kc : Nat → Int32) (kh : Nat → Int32) (fo : Nat → Nat → Int32) (kl : Nat → Int32) (kp : Nat → Int32) (dy : Int32) (n : Nat) (qp : Nat → Int32) (qm : Nat → Int32) (qv : Nat → Int32) (qc : Nat → Int32) (p1 : Int32)  : Nat → Int32 → Int32 → (Nat → Int32) → (Nat → Int32) → (Nat → Int32) → (Nat → Int32) → (Nat → Int32) → (Nat → Int32) → (Nat → Int32) → Int32 → (Nat → Int32) → (Nat → Int32) → (Nat → Int32) → Option (Int32 × (Nat → Int32) × (Nat → Int32) × (Nat → Int32) × (Nat → Int32) × (Nat → Int32) × (Nat → Int32) × (Nat → Int32) × Int32 × (Nat → Int32) × (Nat → Int32) × (Nat → Int32))
  | 0, _, _, _, _, _, _, _, _, _, _, _, _, _ => none
  | nn + 1, x6, x7, lm, lr, lq, ks, mt, mv, sw, hv, tk, tn, sc => pf_L_isSo_32b lp kc kh fo kl kp dy n qp qm qv qc p1  (pf_L_isSo_32 lp kc kh fo kl kp dy n qp qm qv qc p1  nn) x6 x7 lm lr lq ks mt mv sw hv tk tn sc
def pf_L_isSo_27 (lp : Nat → Int32) (kc : Nat → Int32) (kh : Nat → Int32) (fo : Nat → Nat → Int32) (kl : Nat → Int32) (kp : Nat → Int32) (dy : Int32) (n : Nat) (qp : Nat → Int32) (qm : Nat → Int32) (qv : Nat → Int32) (qc : Nat → Int32) (p1 : Int32)  (z0 : Int32) (lm : Nat → Int32) (lr : Nat → Int32) (lq : Nat → Int32) (ks : Nat → Int32) (mt : Nat → Int32) (mv : Nat → Int32) (sw : Nat → Int32) (hv : Int32) (tk : Nat → Int32) (tn : Nat → Int32) (sc : Nat → Int32) : Option (Int32 × (Nat → Int32) × (Nat → Int32) × (Nat → Int32) × (Nat → Int32) × (Nat → Int32) × (Nat → Int32) × (Nat → Int32) × Int32 × (Nat → Int32) × (Nat → Int32) × (Nat → Int32)) :=
  pf_L_isSo_32 lp kc kh fo kl kp dy n qp qm qv qc p1 kv_F z0 0 lm lr lq ks mt mv sw hv tk tn sc
def pf_L_isSo (lp : Nat → Int32) (kc : Nat → Int32) (kh : Nat → Int32) (fo : Nat → Nat → Int32) (kl : Nat → Int32) (kp : Nat → Int32) (dy : Int32) (n : Nat) (qp : Nat → Int32) (qm : Nat → Int32) (qv : Nat → Int32) (qc : Nat → Int32) (p1 : Int32) (lm : Nat → Int32) (lr : Nat → Int32) (lq : Nat → Int32) (ks : Nat → Int32) (mt : Nat → Int32) (mv : Nat → Int32) (sw : Nat → Int32) (hv : Int32) (tk : Nat → Int32) (tn : Nat → Int32) (sc : Nat → Int32) : Option (Int32 × (Nat → Int32) × (Nat → Int32) × (Nat → Int32) × (Nat → Int32) × (Nat → Int32) × (Nat → Int32) × (Nat → Int32) × Int32 × (Nat → Int32) × (Nat → Int32) × (Nat → Int32)) :=
  kv_q1 (pf_X2_today dy) (fun r_1 => kv_G (0 : Int32) 3 (kv_T (lq (0 : Int32).toNatClampNeg) (fun y_7 => if r_1 = y_7 then kv_q1 (pf_X2_rights n) (fun r_12 => kv_G (1 : Int32) 3 (kv_T (lq (1 : Int32).toNatClampNeg) (fun y_18 => if r_12 = y_18 then pf_L_isSo_27 lp kc kh fo kl kp dy n qp qm qv qc p1 1 lm lr lq ks mt mv sw hv tk tn sc else pf_L_isSo_27 lp kc kh fo kl kp dy n qp qm qv qc p1 0 lm lr lq ks mt mv sw hv tk tn sc))) else pf_L_isSo_27 lp kc kh fo kl kp dy n qp qm qv qc p1 0 lm lr lq ks mt mv sw hv tk tn sc)))
abbrev rmL_isSo : Room := { frames := 10, cells := 6, slots := 36, locals := 173 }
set_option maxHeartbeats 8000000 in
set_option maxRecDepth 100000 in
theorem c_L_isSo (l : Launch) (hl9 : l.stackTraces = false) (D : va_G) (ci la ad : Nat → Nat) (aS : Nat) (lm : Nat → Int32) (lp : Nat → Int32) (lr : Nat → Int32) (lq : Nat → Int32) (kc : Nat → Int32) (kh : Nat → Int32) (ks : Nat → Int32) (fo : Nat → Nat → Int32) (kl : Nat → Int32) (kp : Nat → Int32) (dy : Int32) (mo : Int32) (n : Nat) (pa : Nat → Nat) (aE : Nat) (qp : Nat → Int32) (qm : Nat → Int32) (ql : Nat → Int32) (qv : Nat → Int32) (qc : Nat → Int32) (qe : Nat → Int32) (mt : Nat → Int32) (mv : Nat → Int32) (sw : Nat → Int32) (hv : Int32) (tk : Nat → Int32) (tn : Nat → Int32) (sc : Nat → Int32) (p1 : Int32) (hRn : pf_L_isSo lp kc kh fo kl kp dy n qp qm qv qc p1 lm lr lq ks mt mv sw hv tk tn sc ≠ none) (sz : Nat) : Met l yL_isSo wsL_isSo rmL_isSo (va_Pc [.ref (ad 0), .int p1, .ref (la 0), .ref (la 1), .ref (la 2), .ref (la 3)] (kv_preW D ci aS (kv_lkw ci la ad lm lp lr lq kc kh ks fo kl kp dy mo n pa aE qp qm ql qv qc qe mt mv sw hv tk tn sc) sz)) (va_Qi (fun (r : Int32) (u : (Nat → Int32) × (Nat → Int32) × (Nat → Int32) × (Nat → Int32) × (Nat → Int32) × (Nat → Int32) × (Nat → Int32) × Int32 × (Nat → Int32) × (Nat → Int32) × (Nat → Int32)) => pf_L_isSo lp kc kh fo kl kp dy n qp qm qv qc p1 lm lr lq ks mt mv sw hv tk tn sc = some (r, u.1, u.2.1, u.2.2.1, u.2.2.2.1, u.2.2.2.2.1, u.2.2.2.2.2.1, u.2.2.2.2.2.2.1, u.2.2.2.2.2.2.2.1, u.2.2.2.2.2.2.2.2.1, u.2.2.2.2.2.2.2.2.2.1, u.2.2.2.2.2.2.2.2.2.2)) (fun u t => kv_post D (kv_lkw ci la ad lm lp lr lq kc kh ks fo kl kp dy mo n pa aE qp qm ql qv qc qe mt mv sw hv tk tn sc) sz (kv_lkw ci la ad u.1 lp u.2.1 u.2.2.1 kc kh u.2.2.2.1 fo kl kp dy mo n pa aE qp qm ql qv qc qe u.2.2.2.2.1 u.2.2.2.2.2.1 u.2.2.2.2.2.2.1 u.2.2.2.2.2.2.2.1 u.2.2.2.2.2.2.2.2.1 u.2.2.2.2.2.2.2.2.2.1 u.2.2.2.2.2.2.2.2.2.2) t) (va_A (kv_lkw ci la ad lm lp lr lq kc kh ks fo kl kp dy mo n pa aE qp qm ql qv qc qe mt mv sw hv tk tn sc) sz)) 6 36 (va_A (kv_lkw ci la ad lm lp lr lq kc kh ks fo kl kp dy mo n pa aE qp qm ql qv qc qe mt mv sw hv tk tn sc) sz) := by
  refine Met.ofW (cc := cL_isSo) (maxL := 13) (ret := (some .boolean)) (by decide) rfl ?_
  intro p en s m args below meth c s₁ B hml hv
  obtain ⟨hv0, ⟨⟨⟨hsz, hP, hK, hD0⟩, hT⟩, hT2⟩, hN⟩ := hv
  have hx := B.exec
  have hb := B.bytes
  have hr := B.returns
  have hts := atoms_spec (ws := wsL_isSo) B.pre
  have hown : s.vm.findClass RL = some m.cls := findClass_of_methodNamed B.named
  have hlocks := B.notSynchronized
  subst hsz
  have hD := hD0.self (sz := s.heap.size)
  generalize hAe : va_A (kv_lkw ci la ad lm lp lr lq kc kh ks fo kl kp dy mo n pa aE qp qm ql qv qc qe mt mv sw hv tk tn sc) s.heap.size = A at hD hT hT2 ⊢
  have hA : ∀ q : Nat, s.heap.size ≤ q → A q := fun q h => by rw [← hAe]; exact Or.inr h
  have hS : va_S A s.heap s.heap [] := va_S.rf
  have hP : va_P D vwCl (kv_lkw ci la ad lm lp lr lq kc kh ks fo kl kp dy mo n pa aE qp qm ql qv qc qe mt mv sw hv tk tn sc) s.heap := hP
  generalize hRd : pf_L_isSo lp kc kh fo kl kp dy n qp qm qv qc p1 lm lr lq ks mt mv sw hv tk tn sc = Rz at hRn
  have hRz := hRn
  refine kv_Q (fun Q hQ => ?_)
  refine W.eq (show entryFrame m args 13 = _ from by rw [hv0, lg_entry_eq]) ?_
  have hl := lv_entry ([.ref (ad 0), .int p1, .ref (la 0), .ref (la 1), .ref (la 2), .ref (la 3)]) (n := 13) (Nat.le_of_ble_eq_true rfl)
  generalize (lg_sl ([.ref (ad 0), .int p1, .ref (la 0), .ref (la 1), .ref (la 2), .ref (la 3)]) ++ List.replicate (13 - (lg_sl ([.ref (ad 0), .int p1, .ref (la 0), .ref (la 1), .ref (la 2), .ref (la 3)])).length) Slot.unset).toArray = ls at hl ⊢
  have hl : lv_has ls 13 [(0, .ref (ad 0)), (1, .int p1), (2, .ref (la 0)), (3, .ref (la 1)), (4, .ref (la 2)), (5, .ref (la 3))] := hl
  have e : Rz = pf_L_isSo lp kc kh fo kl kp dy n qp qm qv qc p1 lm lr lq ks mt mv sw hv tk tn sc := hRd.symm
  rw [pf_L_isSo] at e
  have hb_506 : ∀ (x6 : Int32) (lm : Nat → Int32) (lr : Nat → Int32) (lq : Nat → Int32) (ks : Nat → Int32) (mt : Nat → Int32) (mv : Nat → Int32) (sw : Nat → Int32) (hv : Int32) (tk : Nat → Int32) (tn : Nat → Int32) (sc : Nat → Int32) (H : Heap) (locs : List Loc) (ls : Array Slot), va_P D vwCl (kv_lkw ci la ad lm lp lr lq kc kh ks fo kl kp dy mo n pa aE qp qm ql qv qc qe mt mv sw hv tk tn sc) H → va_D A (kv_lkw ci la ad lm lp lr lq kc kh ks fo kl kp dy mo n pa aE qp qm ql qv qc qe mt mv sw hv tk tn sc) → va_S A s.heap H locs → lv_has ls 13 [(0, .ref (ad 0)), (1, .int p1), (2, .ref (la 0)), (3, .ref (la 1)), (4, .ref (la 2)), (5, .ref (la 3)), (6, .int x6)] → Rz = pf_L_isSo_506 lp kc kh fo kl kp dy n qp qm qv qc p1  x6 lm lr lq ks mt mv sw hv tk tn sc → W p l en rmL_isSo s m args below meth c H locs 6 36 Q (F0 m 506 ls []) := by
    intro x6 lm lr lq ks mt mv sw hv tk tn sc H locs ls  hP hD hS hl e
    rw [pf_L_isSo_506] at e
    refine lv_iload hx hb dL_isSo_506 (lv_at hl 6 rfl) ?_
    refine lv_if_eq (tgt := 557) hx hb dL_isSo_508 (by decide) (fun c_508 => ?_) (fun c_508 => ?_)
    · have e := e.trans (if_pos c_508)
      refine lv_iconst (v := 0) hx hb dL_isSo_557 (by decide) ?_
      rw [hQ]
      exact W.zret (v := 0) hx hb hr (by decide +kernel) (fun t ht hW => ⟨⟨0, (lm, lr, lq, ks, mt, mv, sw, hv, tk, tn, sc), rfl, e, ⟨by rw [ht]; exact hP, by rw [hAe]; exact hD⟩⟩, hS.F ht⟩) hS.2.2 dL_isSo_558
    · have e := e.trans (if_neg c_508)
      refine lv_aload hx hb dL_isSo_511 (lv_at hl 5 rfl) ?_
      refine lv_iconst (v := 1) hx hb dL_isSo_513 (by decide) ?_
      obtain ⟨hi_514, e⟩ := kv_G_e e hRz
      refine kv_iald hx hb hK hP 3 0 hi_514 dL_isSo_514 rfl rfl (fun y_514 ey_514 => ?_)
      have e := kv_T_e e ey_514
      refine lv_if_eq (tgt := 553) hx hb dL_isSo_515 (by decide) (fun c_515 => ?_) (fun c_515 => ?_)
      · have e := e.trans (if_pos c_515)
        refine lv_iconst (v := 1) hx hb dL_isSo_553 (by decide) ?_
        refine lv_goto (tgt := 558) hx hb dL_isSo_554 (by decide) ?_
        rw [hQ]
        exact W.zret (v := 1) hx hb hr (by decide +kernel) (fun t ht hW => ⟨⟨1, (lm, lr, lq, ks, mt, mv, sw, hv, tk, tn, sc), rfl, e, ⟨by rw [ht]; exact hP, by rw [hAe]; exact hD⟩⟩, hS.F ht⟩) hS.2.2 dL_isSo_558
      · have e := e.trans (if_neg c_515)
        refine lv_iload_n hx hb dL_isSo_518 rfl (lv_at hl 1 rfl) ?_
        refine lv_bipush (v := 6) hx hb dL_isSo_519 (by decide) ?_
        refine lv_ishr hx hb dL_isSo_521 ?_
        refine lv_iconst (v := 5) hx hb dL_isSo_522 (by decide) ?_
        have hP : va_P D vwCl ((kv_lw ci la lm lp lr lq) ++ (kv_kw ci ad kc kh ks fo kl kp dy mo n pa aE qp qm ql qv qc qe mt mv sw hv tk tn sc)) H := hP
        have hD : va_D A ((kv_lw ci la lm lp lr lq) ++ (kv_kw ci ad kc kh ks fo kl kp dy mo n pa aE qp qm ql qv qc qe mt mv sw hv tk tn sc)) := hD
        refine kv_calliF (va_runS (As := [.int (p1 >>> (6 &&& 31)), .int 5]) (rest := []) ⟨hx, hb, hml, hown, hts⟩ (c_L_low l D ci la lm lp lr lq (p1 >>> (6 &&& 31)) 5 (kv_q1_n e hRz) H.size) (va_cwS 2 hts gL_isSo_L_low rfl rfl rfl (by decide +kernel) ⟨Nat.le_of_ble_eq_true rfl, Nat.le_of_ble_eq_true rfl⟩) (kv_preS hK (kv_Pl hP) (kv_Dl hD)) rfl rfl hl.1 rfl (lv_room (Nat.le_of_ble_eq_true rfl)) dL_isSo_523 ⟨Nat.le_of_ble_eq_true rfl, Nat.le_of_ble_eq_true rfl⟩) hP hD hS hA (fun r_523 u_523 H locs hw_523 hP hD hS => ?_)
        have e := kv_q1_e e hw_523
        have hP : va_P D vwCl (kv_lkw ci la ad lm lp lr lq kc kh ks fo kl kp dy mo n pa aE qp qm ql qv qc qe mt mv sw hv tk tn sc) H := hP
        have hD : va_D A (kv_lkw ci la ad lm lp lr lq kc kh ks fo kl kp dy mo n pa aE qp qm ql qv qc qe mt mv sw hv tk tn sc) := hD
        refine lv_if_gt (tgt := 553) hx hb dL_isSo_526 (by decide) (fun c_526 => ?_) (fun c_526 => ?_)
        · have e := e.trans (if_pos c_526)
          refine lv_iconst (v := 1) hx hb dL_isSo_553 (by decide) ?_
          refine lv_goto (tgt := 558) hx hb dL_isSo_554 (by decide) ?_
          rw [hQ]
          exact W.zret (v := 1) hx hb hr (by decide +kernel) (fun t ht hW => ⟨⟨1, (lm, lr, lq, ks, mt, mv, sw, hv, tk, tn, sc), rfl, e, ⟨by rw [ht]; exact hP, by rw [hAe]; exact hD⟩⟩, hS.F ht⟩) hS.2.2 dL_isSo_558
        · have e := e.trans (if_neg c_526)
          refine lv_aload_n hx hb dL_isSo_529 rfl (lv_at hl 0 rfl) ?_
          refine lv_iload_n hx hb dL_isSo_530 rfl (lv_at hl 1 rfl) ?_
          refine lv_bipush (v := 8) hx hb dL_isSo_531 (by decide) ?_
          refine lv_ishr hx hb dL_isSo_533 ?_
          refine lv_aload hx hb dL_isSo_534 (lv_at hl 5 rfl) ?_
          refine lv_iconst (v := 1) hx hb dL_isSo_536 (by decide) ?_
          obtain ⟨hi_537, e⟩ := kv_G_e e hRz
          refine kv_iald hx hb hK hP 3 0 hi_537 dL_isSo_537 rfl rfl (fun y_537 ey_537 => ?_)
          have e := kv_T_e e ey_537
          have hP : va_P D vwCl ((kv_lw ci la lm lp lr lq) ++ (kv_kw ci ad kc kh ks fo kl kp dy mo n pa aE qp qm ql qv qc qe mt mv sw hv tk tn sc)) H := hP
          have hD : va_D A ((kv_lw ci la lm lp lr lq) ++ (kv_kw ci ad kc kh ks fo kl kp dy mo n pa aE qp qm ql qv qc qe mt mv sw hv tk tn sc)) := hD
          refine kv_calliF (va_runS (As := [.int (p1 >>> (8 &&& 31)), .int y_537]) (rest := [.ref (ad 0)]) ⟨hx, hb, hml, hown, hts⟩ (c_L_low l D ci la lm lp lr lq (p1 >>> (8 &&& 31)) y_537 (kv_q1_n e hRz) H.size) (va_cwS 2 hts gL_isSo_L_low rfl rfl rfl (by decide +kernel) ⟨Nat.le_of_ble_eq_true rfl, Nat.le_of_ble_eq_true rfl⟩) (kv_preS hK (kv_Pl hP) (kv_Dl hD)) rfl rfl hl.1 rfl (lv_room (Nat.le_of_ble_eq_true rfl)) dL_isSo_538 ⟨Nat.le_of_ble_eq_true rfl, Nat.le_of_ble_eq_true rfl⟩) hP hD hS hA (fun r_538 u_538 H locs hw_538 hP hD hS => ?_)
          have e := kv_q1_e e hw_538
          have hP : va_P D vwCl (kv_lkw ci la ad lm lp lr lq kc kh ks fo kl kp dy mo n pa aE qp qm ql qv qc qe mt mv sw hv tk tn sc) H := hP
          have hD : va_D A (kv_lkw ci la ad lm lp lr lq kc kh ks fo kl kp dy mo n pa aE qp qm ql qv qc qe mt mv sw hv tk tn sc) := hD
          refine lv_aload_n hx hb dL_isSo_541 rfl (lv_at hl 2 rfl) ?_
          refine lv_aload_n hx hb dL_isSo_542 rfl (lv_at hl 3 rfl) ?_
          refine lv_aload hx hb dL_isSo_543 (lv_at hl 4 rfl) ?_
          refine lv_aload hx hb dL_isSo_545 (lv_at hl 5 rfl) ?_
          refine kv_calli (va_runS (As := [.ref (ad 0), .int r_538, .ref (la 0), .ref (la 1), .ref (la 2), .ref (la 3)]) (rest := []) ⟨hx, hb, hml, hown, hts⟩ (c_L_spare l D ci la ad lm lp lr lq kc kh ks fo kl kp dy mo n pa aE qp qm ql qv qc qe mt mv sw hv tk tn sc r_538 (kv_q8_n e hRz) H.size) (va_cwS 6 hts gL_isSo_L_spare rfl rfl rfl (by decide +kernel) ⟨Nat.le_of_ble_eq_true rfl, Nat.le_of_ble_eq_true rfl⟩) (kv_preS hK hP hD) rfl rfl hl.1 rfl (lv_room (Nat.le_of_ble_eq_true rfl)) dL_isSo_547 ⟨Nat.le_of_ble_eq_true rfl, Nat.le_of_ble_eq_true rfl⟩) hD hS hA (fun r_547 u_547 H locs hw_547 hP hD hS => ?_)
          obtain ⟨o0_547, o1_547, o2_547, o3_547, o4_547, o5_547, o6_547⟩ := u_547
          have e := kv_q8_e e hw_547
          have hP : va_P D vwCl (kv_lkw ci la ad lm lp o0_547 o1_547 kc kh ks fo kl kp dy mo n pa aE qp qm ql qv qc qe o2_547 o3_547 o4_547 o5_547 o6_547 tn sc) H := hP
          have hD : va_D A (kv_lkw ci la ad lm lp o0_547 o1_547 kc kh ks fo kl kp dy mo n pa aE qp qm ql qv qc qe o2_547 o3_547 o4_547 o5_547 o6_547 tn sc) := hD
          refine lv_if_eq (tgt := 557) hx hb dL_isSo_550 (by decide) (fun c_550 => ?_) (fun c_550 => ?_)
          · have e := e.trans (if_pos c_550)
            refine lv_iconst (v := 0) hx hb dL_isSo_557 (by decide) ?_
            rw [hQ]
            exact W.zret (v := 0) hx hb hr (by decide +kernel) (fun t ht hW => ⟨⟨0, (lm, o0_547, o1_547, ks, o2_547, o3_547, o4_547, o5_547, o6_547, tn, sc), rfl, e, ⟨by rw [ht]; exact hP, by rw [hAe]; exact hD⟩⟩, hS.F ht⟩) hS.2.2 dL_isSo_558
          · have e := e.trans (if_neg c_550)
            refine lv_iconst (v := 1) hx hb dL_isSo_553 (by decide) ?_
            refine lv_goto (tgt := 558) hx hb dL_isSo_554 (by decide) ?_
            rw [hQ]
            exact W.zret (v := 1) hx hb hr (by decide +kernel) (fun t ht hW => ⟨⟨1, (lm, o0_547, o1_547, ks, o2_547, o3_547, o4_547, o5_547, o6_547, tn, sc), rfl, e, ⟨by rw [ht]; exact hP, by rw [hAe]; exact hD⟩⟩, hS.F ht⟩) hS.2.2 dL_isSo_558
  have hb_504 : ∀ (z0 : Int32) (lm : Nat → Int32) (lr : Nat → Int32) (lq : Nat → Int32) (ks : Nat → Int32) (mt : Nat → Int32) (mv : Nat → Int32) (sw : Nat → Int32) (hv : Int32) (tk : Nat → Int32) (tn : Nat → Int32) (sc : Nat → Int32) (H : Heap) (locs : List Loc) (ls : Array Slot), va_P D vwCl (kv_lkw ci la ad lm lp lr lq kc kh ks fo kl kp dy mo n pa aE qp qm ql qv qc qe mt mv sw hv tk tn sc) H → va_D A (kv_lkw ci la ad lm lp lr lq kc kh ks fo kl kp dy mo n pa aE qp qm ql qv qc qe mt mv sw hv tk tn sc) → va_S A s.heap H locs → lv_has ls 13 [(0, .ref (ad 0)), (1, .int p1), (2, .ref (la 0)), (3, .ref (la 1)), (4, .ref (la 2)), (5, .ref (la 3))] → Rz = pf_L_isSo_504 lp kc kh fo kl kp dy n qp qm qv qc p1  z0 lm lr lq ks mt mv sw hv tk tn sc → W p l en rmL_isSo s m args below meth c H locs 6 36 Q (F0 m 504 ls [.int z0]) := by
    intro z0 lm lr lq ks mt mv sw hv tk tn sc H locs ls  hP hD hS hl e
    rw [pf_L_isSo_504] at e
    refine lv_istore (lv' := [(6, .int z0), (0, .ref (ad 0)), (1, .int p1), (2, .ref (la 0)), (3, .ref (la 1)), (4, .ref (la 2)), (5, .ref (la 3))]) hx hb dL_isSo_504 hl (by decide) rfl (fun ls hl => ?_)
    exact hb_506 z0 lm lr lq ks mt mv sw hv tk tn sc _ _ _  hP hD hS (lv_sub hl [1, 2, 3, 4, 5, 6, 0] rfl) e
  have hb_469 : ∀ (x7 : Int32) (x9 : Int32) (x10 : Int32) (x12 : Int32) (z0 : Int32) (lm : Nat → Int32) (lr : Nat → Int32) (lq : Nat → Int32) (ks : Nat → Int32) (mt : Nat → Int32) (mv : Nat → Int32) (sw : Nat → Int32) (hv : Int32) (tk : Nat → Int32) (tn : Nat → Int32) (sc : Nat → Int32) (H : Heap) (locs : List Loc) (ls : Array Slot), va_P D vwCl (kv_lkw ci la ad lm lp lr lq kc kh ks fo kl kp dy mo n pa aE qp qm ql qv qc qe mt mv sw hv tk tn sc) H → va_D A (kv_lkw ci la ad lm lp lr lq kc kh ks fo kl kp dy mo n pa aE qp qm ql qv qc qe mt mv sw hv tk tn sc) → va_S A s.heap H locs → lv_has ls 13 [(0, .ref (ad 0)), (1, .int p1), (2, .ref (la 0)), (3, .ref (la 1)), (4, .ref (la 2)), (5, .ref (la 3)), (7, .int x7), (9, .int x9), (10, .int x10), (12, .int x12)] → Rz = pf_L_isSo_469 lp kc kh fo kl kp dy n qp qm qv qc p1  x7 x9 x10 x12 z0 lm lr lq ks mt mv sw hv tk tn sc → W p l en rmL_isSo s m args below meth c H locs 2 12 Q (F0 m 469 ls [.int z0]) := by
    intro x7 x9 x10 x12 z0 lm lr lq ks mt mv sw hv tk tn sc H locs ls  hP hD hS hl e
    rw [pf_L_isSo_469] at e
    refine lv_istore (lv' := [(11, .int z0), (0, .ref (ad 0)), (1, .int p1), (2, .ref (la 0)), (3, .ref (la 1)), (4, .ref (la 2)), (5, .ref (la 3)), (7, .int x7), (9, .int x9), (10, .int x10), (12, .int x12)]) hx hb dL_isSo_469 hl (by decide) rfl (fun ls hl => ?_)
    refine lv_aload_n hx hb dL_isSo_471 rfl (lv_at hl 3 rfl) ?_
    refine lv_iconst (v := 4) hx hb dL_isSo_472 (by decide) ?_
    refine lv_iload hx hb dL_isSo_473 (lv_at hl 8 rfl) ?_
    refine lv_imul hx hb dL_isSo_475 ?_
    refine lv_iconst (v := 1) hx hb dL_isSo_476 (by decide) ?_
    refine lv_iadd hx hb dL_isSo_477 ?_
    refine lv_iload hx hb dL_isSo_478 (lv_at hl 10 rfl) ?_
    obtain ⟨hi_480, e⟩ := kv_G_e e hRz
    refine kv_iast hx hb hK hP hD hS 0 0 (fun g_480 => (kv_lkw ci la ad g_480 lp lr lq kc kh ks fo kl kp dy mo n pa aE qp qm ql qv qc qe mt mv sw hv tk tn sc)) hi_480 dL_isSo_480 rfl rfl (fun _ => rfl) (fun g_480 H locs eg_480 hP hD hS => ?_)
    have e := kv_T_e e eg_480
    refine lv_aload_n hx hb dL_isSo_481 rfl (lv_at hl 1 rfl) ?_
    refine lv_bipush (v := 6) hx hb dL_isSo_482 (by decide) ?_
    refine lv_iload hx hb dL_isSo_484 (lv_at hl 7 rfl) ?_
    refine lv_iload hx hb dL_isSo_486 (lv_at hl 8 rfl) ?_
    refine lv_iload hx hb dL_isSo_488 (lv_at hl 9 rfl) ?_
    refine lv_iconst (v := 0) hx hb dL_isSo_490 (by decide) ?_
    have hP : va_P D vwCl ((kv_kw ci ad kc kh ks fo kl kp dy mo n pa aE qp qm ql qv qc qe mt mv sw hv tk tn sc) ++ (kv_lw ci la g_480 lp lr lq)) H := kv_commP hP
    have hD : va_D A ((kv_kw ci ad kc kh ks fo kl kp dy mo n pa aE qp qm ql qv qc qe mt mv sw hv tk tn sc) ++ (kv_lw ci la g_480 lp lr lq)) := kv_commD hD
    refine kv_calliF (vx_runSW (As := [.ref (ad 0), .int 6, .int x7, .int x9, .int x10, .int 0]) (rest := []) ⟨hx, hb, hml, hown, hts⟩ (c_L_calls_6 l hl9 D ci ad aS kc kh ks fo kl kp dy mo n pa aE qp qm ql qv qc qe mt mv sw hv tk tn sc x7 x9 x10 0 (kv_q7_n e hRz) H.size) (vx_cwSW 6 hts gL_isSo_L_calls rfl rfl rfl (by decide +kernel) ⟨Nat.le_of_ble_eq_true rfl, Nat.le_of_ble_eq_true rfl⟩) (kv_preSW hK (kv_Pl hP) (kv_Dl hD) hT hT2 hN hS hA) rfl rfl hl.1 rfl (lv_room (Nat.le_of_ble_eq_true rfl)) dL_isSo_491 ⟨Nat.le_of_ble_eq_true rfl, Nat.le_of_ble_eq_true rfl⟩) hP hD hS hA (fun r_491 u_491 H locs hw_491 hP hD hS => ?_)
    obtain ⟨o0_491, o1_491, o2_491, o3_491, o4_491, o5_491⟩ := u_491
    have e := kv_q7_e e hw_491
    have hP : va_P D vwCl (kv_lkw ci la ad g_480 lp lr lq kc kh o0_491 fo kl kp dy mo n pa aE qp qm ql qv qc qe o1_491 o2_491 o3_491 o4_491 o5_491 tn sc) H := kv_commP hP
    have hD : va_D A (kv_lkw ci la ad g_480 lp lr lq kc kh o0_491 fo kl kp dy mo n pa aE qp qm ql qv qc qe o1_491 o2_491 o3_491 o4_491 o5_491 tn sc) := kv_commD hD
    refine lv_iload hx hb dL_isSo_494 (lv_at hl 0 rfl) ?_
    refine lv_icmp_ne (tgt := 503) hx hb dL_isSo_496 (by decide) (fun c_496 => ?_) (fun c_496 => ?_)
    · have e := e.trans (if_neg c_496)
      refine lv_iconst (v := 0) hx hb dL_isSo_503 (by decide) ?_
      exact hb_504 0 g_480 lr lq o0_491 o1_491 o2_491 o3_491 o4_491 o5_491 tn sc _ _ _  hP hD hS (lv_sub hl [1, 2, 3, 4, 5, 6] rfl) e
    · have e := e.trans (if_pos c_496)
      refine lv_iconst (v := 1) hx hb dL_isSo_499 (by decide) ?_
      refine lv_goto (tgt := 504) hx hb dL_isSo_500 (by decide) ?_
      exact hb_504 1 g_480 lr lq o0_491 o1_491 o2_491 o3_491 o4_491 o5_491 tn sc _ _ _  hP hD hS (lv_sub hl [1, 2, 3, 4, 5, 6] rfl) e
  have hb_447 : ∀ (x7 : Int32) (x9 : Int32) (x10 : Int32) (x11 : Int32) (x12 : Int32) (z1 : Int32) (z2 : Int32) (lm : Nat → Int32) (lr : Nat → Int32) (lq : Nat → Int32) (ks : Nat → Int32) (mt : Nat → Int32) (mv : Nat → Int32) (sw : Nat → Int32) (hv : Int32) (tk : Nat → Int32) (tn : Nat → Int32) (sc : Nat → Int32) (H : Heap) (locs : List Loc) (ls : Array Slot), va_P D vwCl (kv_lkw ci la ad lm lp lr lq kc kh ks fo kl kp dy mo n pa aE qp qm ql qv qc qe mt mv sw hv tk tn sc) H → va_D A (kv_lkw ci la ad lm lp lr lq kc kh ks fo kl kp dy mo n pa aE qp qm ql qv qc qe mt mv sw hv tk tn sc) → va_S A s.heap H locs → lv_has ls 13 [(0, .ref (ad 0)), (1, .int p1), (2, .ref (la 0)), (3, .ref (la 1)), (4, .ref (la 2)), (5, .ref (la 3)), (7, .int x7), (9, .int x9), (10, .int x10), (11, .int x11), (12, .int x12)] → Rz = pf_L_isSo_447 lp kc kh fo kl kp dy n qp qm qv qc p1  x7 x9 x10 x11 x12 z1 z2 lm lr lq ks mt mv sw hv tk tn sc → W p l en rmL_isSo s m args below meth c H locs 2 12 Q (F0 m 447 ls [.int z2, .int z1, .ref (la 0)]) := by
    intro x7 x9 x10 x11 x12 z1 z2 lm lr lq ks mt mv sw hv tk tn sc H locs ls  hP hD hS hl e
    rw [pf_L_isSo_447] at e
    obtain ⟨hi_447, e⟩ := kv_G_e e hRz
    refine kv_iast hx hb hK hP hD hS 0 0 (fun g_447 => (kv_lkw ci la ad g_447 lp lr lq kc kh ks fo kl kp dy mo n pa aE qp qm ql qv qc qe mt mv sw hv tk tn sc)) hi_447 dL_isSo_447 rfl rfl (fun _ => rfl) (fun g_447 H locs eg_447 hP hD hS => ?_)
    have e := kv_T_e e eg_447
    refine lv_iload hx hb dL_isSo_448 (lv_at hl 9 rfl) ?_
    refine lv_if_ge (tgt := 458) hx hb dL_isSo_450 (by decide) (fun c_450 => ?_) (fun c_450 => ?_)
    · have e := e.trans (if_pos c_450)
      refine lv_iload hx hb dL_isSo_458 (lv_at hl 6 rfl) ?_
      refine lv_aload_n hx hb dL_isSo_460 rfl (lv_at hl 2 rfl) ?_
      refine lv_aload_n hx hb dL_isSo_461 rfl (lv_at hl 3 rfl) ?_
      refine lv_aload hx hb dL_isSo_462 (lv_at hl 4 rfl) ?_
      refine lv_aload hx hb dL_isSo_464 (lv_at hl 5 rfl) ?_
      have hP : va_P D vwCl ((kv_lw ci la g_447 lp lr lq) ++ (kv_kw ci ad kc kh ks fo kl kp dy mo n pa aE qp qm ql qv qc qe mt mv sw hv tk tn sc)) H := hP
      have hD : va_D A ((kv_lw ci la g_447 lp lr lq) ++ (kv_kw ci ad kc kh ks fo kl kp dy mo n pa aE qp qm ql qv qc qe mt mv sw hv tk tn sc)) := hD
      refine kv_calliF (va_runS (As := [.int x7, .ref (la 0), .ref (la 1), .ref (la 2), .ref (la 3)]) (rest := []) ⟨hx, hb, hml, hown, hts⟩ (c_L_gap l D ci la g_447 lp lr lq x7 (kv_q2_n e hRz) H.size) (va_cwS 5 hts gL_isSo_L_gap rfl rfl rfl (by decide +kernel) ⟨Nat.le_of_ble_eq_true rfl, Nat.le_of_ble_eq_true rfl⟩) (kv_preS hK (kv_Pl hP) (kv_Dl hD)) rfl rfl hl.1 rfl (lv_room (Nat.le_of_ble_eq_true rfl)) dL_isSo_466 ⟨Nat.le_of_ble_eq_true rfl, Nat.le_of_ble_eq_true rfl⟩) hP hD hS hA (fun r_466 u_466 H locs hw_466 hP hD hS => ?_)
      have e := kv_q2_e e hw_466
      have hP : va_P D vwCl (kv_lkw ci la ad g_447 lp lr u_466 kc kh ks fo kl kp dy mo n pa aE qp qm ql qv qc qe mt mv sw hv tk tn sc) H := hP
      have hD : va_D A (kv_lkw ci la ad g_447 lp lr u_466 kc kh ks fo kl kp dy mo n pa aE qp qm ql qv qc qe mt mv sw hv tk tn sc) := hD
      exact hb_469 x7 x9 x10 x12 r_466 g_447 lr u_466 ks mt mv sw hv tk tn sc _ _ _  hP hD hS (lv_sub hl [0, 1, 2, 3, 4, 5, 6, 7, 8, 10] rfl) e
    · have e := e.trans (if_neg c_450)
      refine lv_iload hx hb dL_isSo_453 (lv_at hl 9 rfl) ?_
      refine lv_goto (tgt := 469) hx hb dL_isSo_455 (by decide) ?_
      exact hb_469 x7 x9 x10 x12 x11 g_447 lr lq ks mt mv sw hv tk tn sc _ _ _  hP hD hS (lv_sub hl [0, 1, 2, 3, 4, 5, 6, 7, 8, 10] rfl) e
  have hb_370 : ∀ (x6 : Int32) (x7 : Int32) (lm : Nat → Int32) (lr : Nat → Int32) (lq : Nat → Int32) (ks : Nat → Int32) (mt : Nat → Int32) (mv : Nat → Int32) (sw : Nat → Int32) (hv : Int32) (tk : Nat → Int32) (tn : Nat → Int32) (sc : Nat → Int32) (H : Heap) (locs : List Loc) (ls : Array Slot), va_P D vwCl (kv_lkw ci la ad lm lp lr lq kc kh ks fo kl kp dy mo n pa aE qp qm ql qv qc qe mt mv sw hv tk tn sc) H → va_D A (kv_lkw ci la ad lm lp lr lq kc kh ks fo kl kp dy mo n pa aE qp qm ql qv qc qe mt mv sw hv tk tn sc) → va_S A s.heap H locs → lv_has ls 13 [(0, .ref (ad 0)), (1, .int p1), (2, .ref (la 0)), (3, .ref (la 1)), (4, .ref (la 2)), (5, .ref (la 3)), (6, .int x6), (7, .int x7)] → Rz = pf_L_isSo_370 lp kc kh fo kl kp dy n qp qm qv qc p1  x6 x7 lm lr lq ks mt mv sw hv tk tn sc → W p l en rmL_isSo s m args below meth c H locs 2 12 Q (F0 m 370 ls []) := by
    intro x6 x7 lm lr lq ks mt mv sw hv tk tn sc H locs ls  hP hD hS hl e
    rw [pf_L_isSo_370] at e
    refine lv_iload hx hb dL_isSo_370 (lv_at hl 6 rfl) ?_
    refine lv_if_eq (tgt := 506) hx hb dL_isSo_372 (by decide) (fun c_372 => ?_) (fun c_372 => ?_)
    · have e := e.trans (if_pos c_372)
      refine W.widen (k := 6) (n := 36) (Nat.le_of_ble_eq_true rfl) (Nat.le_of_ble_eq_true rfl) ?_
      exact hb_506 x6 lm lr lq ks mt mv sw hv tk tn sc _ _ _  hP hD hS (lv_sub hl [0, 1, 2, 3, 4, 5, 6] rfl) e
    · have e := e.trans (if_neg c_372)
      refine lv_iload_n hx hb dL_isSo_375 rfl (lv_at hl 1 rfl) ?_
      refine lv_iconst (v := 5) hx hb dL_isSo_376 (by decide) ?_
      refine lv_ishr hx hb dL_isSo_377 ?_
      refine lv_iconst (v := 4) hx hb dL_isSo_378 (by decide) ?_
      have hP : va_P D vwCl ((kv_lw ci la lm lp lr lq) ++ (kv_kw ci ad kc kh ks fo kl kp dy mo n pa aE qp qm ql qv qc qe mt mv sw hv tk tn sc)) H := hP
      have hD : va_D A ((kv_lw ci la lm lp lr lq) ++ (kv_kw ci ad kc kh ks fo kl kp dy mo n pa aE qp qm ql qv qc qe mt mv sw hv tk tn sc)) := hD
      refine kv_calliF (va_runS (As := [.int (p1 >>> (5 &&& 31)), .int 4]) (rest := []) ⟨hx, hb, hml, hown, hts⟩ (c_L_low l D ci la lm lp lr lq (p1 >>> (5 &&& 31)) 4 (kv_q1_n e hRz) H.size) (va_cwS 2 hts gL_isSo_L_low rfl rfl rfl (by decide +kernel) ⟨Nat.le_of_ble_eq_true rfl, Nat.le_of_ble_eq_true rfl⟩) (kv_preS hK (kv_Pl hP) (kv_Dl hD)) rfl rfl hl.1 rfl (lv_room (Nat.le_of_ble_eq_true rfl)) dL_isSo_379 ⟨Nat.le_of_ble_eq_true rfl, Nat.le_of_ble_eq_true rfl⟩) hP hD hS hA (fun r_379 u_379 H locs hw_379 hP hD hS => ?_)
      have e := kv_q1_e e hw_379
      have hP : va_P D vwCl (kv_lkw ci la ad lm lp lr lq kc kh ks fo kl kp dy mo n pa aE qp qm ql qv qc qe mt mv sw hv tk tn sc) H := hP
      have hD : va_D A (kv_lkw ci la ad lm lp lr lq kc kh ks fo kl kp dy mo n pa aE qp qm ql qv qc qe mt mv sw hv tk tn sc) := hD
      refine lv_if_ne (tgt := 506) hx hb dL_isSo_382 (by decide) (fun c_382 => ?_) (fun c_382 => ?_)
      · have e := e.trans (if_neg c_382)
        refine W.widen (k := 6) (n := 36) (Nat.le_of_ble_eq_true rfl) (Nat.le_of_ble_eq_true rfl) ?_
        exact hb_506 x6 lm lr lq ks mt mv sw hv tk tn sc _ _ _  hP hD hS (lv_sub hl [0, 1, 2, 3, 4, 5, 6] rfl) e
      · have e := e.trans (if_pos c_382)
        refine lv_iload_n hx hb dL_isSo_385 rfl (lv_at hl 1 rfl) ?_
        refine lv_bipush (v := 7) hx hb dL_isSo_386 (by decide) ?_
        refine lv_ishr hx hb dL_isSo_388 ?_
        refine lv_iconst (v := 5) hx hb dL_isSo_389 (by decide) ?_
        have hP : va_P D vwCl ((kv_lw ci la lm lp lr lq) ++ (kv_kw ci ad kc kh ks fo kl kp dy mo n pa aE qp qm ql qv qc qe mt mv sw hv tk tn sc)) H := hP
        have hD : va_D A ((kv_lw ci la lm lp lr lq) ++ (kv_kw ci ad kc kh ks fo kl kp dy mo n pa aE qp qm ql qv qc qe mt mv sw hv tk tn sc)) := hD
        refine kv_calliF (va_runS (As := [.int (p1 >>> (7 &&& 31)), .int 5]) (rest := []) ⟨hx, hb, hml, hown, hts⟩ (c_L_low l D ci la lm lp lr lq (p1 >>> (7 &&& 31)) 5 (kv_q1_n e hRz) H.size) (va_cwS 2 hts gL_isSo_L_low rfl rfl rfl (by decide +kernel) ⟨Nat.le_of_ble_eq_true rfl, Nat.le_of_ble_eq_true rfl⟩) (kv_preS hK (kv_Pl hP) (kv_Dl hD)) rfl rfl hl.1 rfl (lv_room (Nat.le_of_ble_eq_true rfl)) dL_isSo_390 ⟨Nat.le_of_ble_eq_true rfl, Nat.le_of_ble_eq_true rfl⟩) hP hD hS hA (fun r_390 u_390 H locs hw_390 hP hD hS => ?_)
        have e := kv_q1_e e hw_390
        have hP : va_P D vwCl (kv_lkw ci la ad lm lp lr lq kc kh ks fo kl kp dy mo n pa aE qp qm ql qv qc qe mt mv sw hv tk tn sc) H := hP
        have hD : va_D A (kv_lkw ci la ad lm lp lr lq kc kh ks fo kl kp dy mo n pa aE qp qm ql qv qc qe mt mv sw hv tk tn sc) := hD
        refine lv_istore (lv' := [(9, .int r_390), (0, .ref (ad 0)), (1, .int p1), (2, .ref (la 0)), (3, .ref (la 1)), (4, .ref (la 2)), (5, .ref (la 3)), (6, .int x6), (7, .int x7)]) hx hb dL_isSo_393 hl (by decide) rfl (fun ls hl => ?_)
        refine lv_iload_n hx hb dL_isSo_395 rfl (lv_at hl 2 rfl) ?_
        refine lv_bipush (v := 9) hx hb dL_isSo_396 (by decide) ?_
        refine lv_ishr hx hb dL_isSo_398 ?_
        refine lv_bipush (v := 6) hx hb dL_isSo_399 (by decide) ?_
        have hP : va_P D vwCl ((kv_lw ci la lm lp lr lq) ++ (kv_kw ci ad kc kh ks fo kl kp dy mo n pa aE qp qm ql qv qc qe mt mv sw hv tk tn sc)) H := hP
        have hD : va_D A ((kv_lw ci la lm lp lr lq) ++ (kv_kw ci ad kc kh ks fo kl kp dy mo n pa aE qp qm ql qv qc qe mt mv sw hv tk tn sc)) := hD
        refine kv_calliF (va_runS (As := [.int (p1 >>> (9 &&& 31)), .int 6]) (rest := []) ⟨hx, hb, hml, hown, hts⟩ (c_L_low l D ci la lm lp lr lq (p1 >>> (9 &&& 31)) 6 (kv_q1_n e hRz) H.size) (va_cwS 2 hts gL_isSo_L_low rfl rfl rfl (by decide +kernel) ⟨Nat.le_of_ble_eq_true rfl, Nat.le_of_ble_eq_true rfl⟩) (kv_preS hK (kv_Pl hP) (kv_Dl hD)) rfl rfl hl.1 rfl (lv_room (Nat.le_of_ble_eq_true rfl)) dL_isSo_401 ⟨Nat.le_of_ble_eq_true rfl, Nat.le_of_ble_eq_true rfl⟩) hP hD hS hA (fun r_401 u_401 H locs hw_401 hP hD hS => ?_)
        have e := kv_q1_e e hw_401
        have hP : va_P D vwCl (kv_lkw ci la ad lm lp lr lq kc kh ks fo kl kp dy mo n pa aE qp qm ql qv qc qe mt mv sw hv tk tn sc) H := hP
        have hD : va_D A (kv_lkw ci la ad lm lp lr lq kc kh ks fo kl kp dy mo n pa aE qp qm ql qv qc qe mt mv sw hv tk tn sc) := hD
        refine lv_iconst (v := 1) hx hb dL_isSo_404 (by decide) ?_
        refine lv_isub hx hb dL_isSo_405 ?_
        refine lv_topi (fun y_406 ey_406 => ?_)
        have e := kv_T_e e ey_406
        refine lv_istore (lv' := [(10, .int y_406), (9, .int r_390), (0, .ref (ad 0)), (1, .int p1), (2, .ref (la 0)), (3, .ref (la 1)), (4, .ref (la 2)), (5, .ref (la 3)), (6, .int x6), (7, .int x7)]) hx hb dL_isSo_406 hl (by decide) rfl (fun ls hl => ?_)
        refine lv_iload hx hb dL_isSo_408 (lv_at hl 1 rfl) ?_
        refine lv_iload hx hb dL_isSo_410 (lv_at hl 0 rfl) ?_
        refine lv_aload_n hx hb dL_isSo_412 rfl (lv_at hl 4 rfl) ?_
        have hP : va_P D vwCl ((kv_lw ci la lm lp lr lq) ++ (kv_kw ci ad kc kh ks fo kl kp dy mo n pa aE qp qm ql qv qc qe mt mv sw hv tk tn sc)) H := hP
        have hD : va_D A ((kv_lw ci la lm lp lr lq) ++ (kv_kw ci ad kc kh ks fo kl kp dy mo n pa aE qp qm ql qv qc qe mt mv sw hv tk tn sc)) := hD
        refine kv_calliF (va_runS (As := [.int r_390, .int y_406, .ref (la 0)]) (rest := []) ⟨hx, hb, hml, hown, hts⟩ (c_L_refuses l D ci la lm lp lr lq r_390 y_406 (kv_q1_n e hRz) H.size) (va_cwS 3 hts gL_isSo_L_refuses rfl rfl rfl (by decide +kernel) ⟨Nat.le_of_ble_eq_true rfl, Nat.le_of_ble_eq_true rfl⟩) (kv_preS hK (kv_Pl hP) (kv_Dl hD)) rfl rfl hl.1 rfl (lv_room (Nat.le_of_ble_eq_true rfl)) dL_isSo_413 ⟨Nat.le_of_ble_eq_true rfl, Nat.le_of_ble_eq_true rfl⟩) hP hD hS hA (fun r_413 u_413 H locs hw_413 hP hD hS => ?_)
        have e := kv_q1_e e hw_413
        have hP : va_P D vwCl (kv_lkw ci la ad lm lp lr lq kc kh ks fo kl kp dy mo n pa aE qp qm ql qv qc qe mt mv sw hv tk tn sc) H := hP
        have hD : va_D A (kv_lkw ci la ad lm lp lr lq kc kh ks fo kl kp dy mo n pa aE qp qm ql qv qc qe mt mv sw hv tk tn sc) := hD
        refine lv_istore (lv' := [(11, .int r_413), (10, .int y_406), (9, .int r_390), (0, .ref (ad 0)), (1, .int p1), (2, .ref (la 0)), (3, .ref (la 1)), (4, .ref (la 2)), (5, .ref (la 3)), (6, .int x6), (7, .int x7)]) hx hb dL_isSo_416 hl (by decide) rfl (fun ls hl => ?_)
        refine lv_aload_n hx hb dL_isSo_418 rfl (lv_at hl 5 rfl) ?_
        refine lv_iconst (v := 4) hx hb dL_isSo_419 (by decide) ?_
        refine lv_iload hx hb dL_isSo_420 (lv_at hl 2 rfl) ?_
        refine lv_imul hx hb dL_isSo_422 ?_
        refine lv_iconst (v := 1) hx hb dL_isSo_423 (by decide) ?_
        refine lv_iadd hx hb dL_isSo_424 ?_
        obtain ⟨hi_425, e⟩ := kv_G_e e hRz
        refine kv_iald hx hb hK hP 0 0 hi_425 dL_isSo_425 rfl rfl (fun y_425 ey_425 => ?_)
        have e := kv_T_e e ey_425
        refine lv_istore (lv' := [(12, .int y_425), (11, .int r_413), (10, .int y_406), (9, .int r_390), (0, .ref (ad 0)), (1, .int p1), (2, .ref (la 0)), (3, .ref (la 1)), (4, .ref (la 2)), (5, .ref (la 3)), (6, .int x6), (7, .int x7)]) hx hb dL_isSo_426 hl (by decide) rfl (fun ls hl => ?_)
        refine lv_aload_n hx hb dL_isSo_428 rfl (lv_at hl 6 rfl) ?_
        refine lv_iconst (v := 4) hx hb dL_isSo_429 (by decide) ?_
        refine lv_iload hx hb dL_isSo_430 (lv_at hl 3 rfl) ?_
        refine lv_imul hx hb dL_isSo_432 ?_
        refine lv_iconst (v := 1) hx hb dL_isSo_433 (by decide) ?_
        refine lv_iadd hx hb dL_isSo_434 ?_
        refine lv_iload hx hb dL_isSo_435 (lv_at hl 1 rfl) ?_
        refine lv_if_ge (tgt := 445) hx hb dL_isSo_437 (by decide) (fun c_437 => ?_) (fun c_437 => ?_)
        · have e := e.trans (if_pos c_437)
          refine lv_iload hx hb dL_isSo_445 (lv_at hl 2 rfl) ?_
          exact hb_447 x7 r_390 y_406 r_413 y_425 ((4 * r_390) + 1) y_406 lm lr lq ks mt mv sw hv tk tn sc _ _ _  hP hD hS (lv_sub hl [4, 5, 6, 7, 8, 9, 11, 3, 2, 1, 0] rfl) e
        · have e := e.trans (if_neg c_437)
          refine lv_iload hx hb dL_isSo_440 (lv_at hl 0 rfl) ?_
          refine lv_goto (tgt := 447) hx hb dL_isSo_442 (by decide) ?_
          exact hb_447 x7 r_390 y_406 r_413 y_425 ((4 * r_390) + 1) y_425 lm lr lq ks mt mv sw hv tk tn sc _ _ _  hP hD hS (lv_sub hl [4, 5, 6, 7, 8, 9, 11, 3, 2, 1, 0] rfl) e
  have hb_368 : ∀ (x7 : Int32) (z0 : Int32) (lm : Nat → Int32) (lr : Nat → Int32) (lq : Nat → Int32) (ks : Nat → Int32) (mt : Nat → Int32) (mv : Nat → Int32) (sw : Nat → Int32) (hv : Int32) (tk : Nat → Int32) (tn : Nat → Int32) (sc : Nat → Int32) (H : Heap) (locs : List Loc) (ls : Array Slot), va_P D vwCl (kv_lkw ci la ad lm lp lr lq kc kh ks fo kl kp dy mo n pa aE qp qm ql qv qc qe mt mv sw hv tk tn sc) H → va_D A (kv_lkw ci la ad lm lp lr lq kc kh ks fo kl kp dy mo n pa aE qp qm ql qv qc qe mt mv sw hv tk tn sc) → va_S A s.heap H locs → lv_has ls 13 [(0, .ref (ad 0)), (1, .int p1), (2, .ref (la 0)), (3, .ref (la 1)), (4, .ref (la 2)), (5, .ref (la 3)), (7, .int x7)] → Rz = pf_L_isSo_368 lp kc kh fo kl kp dy n qp qm qv qc p1  x7 z0 lm lr lq ks mt mv sw hv tk tn sc → W p l en rmL_isSo s m args below meth c H locs 2 12 Q (F0 m 368 ls [.int z0]) := by
    intro x7 z0 lm lr lq ks mt mv sw hv tk tn sc H locs ls  hP hD hS hl e
    rw [pf_L_isSo_368] at e
    refine lv_istore (lv' := [(6, .int z0), (0, .ref (ad 0)), (1, .int p1), (2, .ref (la 0)), (3, .ref (la 1)), (4, .ref (la 2)), (5, .ref (la 3)), (7, .int x7)]) hx hb dL_isSo_368 hl (by decide) rfl (fun ls hl => ?_)
    exact hb_370 z0 x7 lm lr lq ks mt mv sw hv tk tn sc _ _ _  hP hD hS (lv_sub hl [1, 2, 3, 4, 5, 6, 0, 7] rfl) e
  have hb_360 : ∀ (x7 : Int32) (z0 : Int32) (z1 : Int32) (lm : Nat → Int32) (lr : Nat → Int32) (lq : Nat → Int32) (ks : Nat → Int32) (mt : Nat → Int32) (mv : Nat → Int32) (sw : Nat → Int32) (hv : Int32) (tk : Nat → Int32) (tn : Nat → Int32) (sc : Nat → Int32) (H : Heap) (locs : List Loc) (ls : Array Slot), va_P D vwCl (kv_lkw ci la ad lm lp lr lq kc kh ks fo kl kp dy mo n pa aE qp qm ql qv qc qe mt mv sw hv tk tn sc) H → va_D A (kv_lkw ci la ad lm lp lr lq kc kh ks fo kl kp dy mo n pa aE qp qm ql qv qc qe mt mv sw hv tk tn sc) → va_S A s.heap H locs → lv_has ls 13 [(0, .ref (ad 0)), (1, .int p1), (2, .ref (la 0)), (3, .ref (la 1)), (4, .ref (la 2)), (5, .ref (la 3)), (7, .int x7)] → Rz = pf_L_isSo_360 lp kc kh fo kl kp dy n qp qm qv qc p1  x7 z0 z1 lm lr lq ks mt mv sw hv tk tn sc → W p l en rmL_isSo s m args below meth c H locs 2 12 Q (F0 m 360 ls [.int z1, .int z0]) := by
    intro x7 z0 z1 lm lr lq ks mt mv sw hv tk tn sc H locs ls  hP hD hS hl e
    rw [pf_L_isSo_360] at e
    refine lv_icmp_ne (tgt := 367) hx hb dL_isSo_360 (by decide) (fun c_360 => ?_) (fun c_360 => ?_)
    · have e := e.trans (if_neg c_360)
      refine lv_iconst (v := 0) hx hb dL_isSo_367 (by decide) ?_
      exact hb_368 x7 0 lm lr lq ks mt mv sw hv tk tn sc _ _ _  hP hD hS (lv_sub hl [0, 1, 2, 3, 4, 5, 6] rfl) e
    · have e := e.trans (if_pos c_360)
      refine lv_iconst (v := 1) hx hb dL_isSo_363 (by decide) ?_
      refine lv_goto (tgt := 368) hx hb dL_isSo_364 (by decide) ?_
      exact hb_368 x7 1 lm lr lq ks mt mv sw hv tk tn sc _ _ _  hP hD hS (lv_sub hl [0, 1, 2, 3, 4, 5, 6] rfl) e
  have hb_311 : ∀ (x7 : Int32) (x8 : Int32) (z0 : Int32) (lm : Nat → Int32) (lr : Nat → Int32) (lq : Nat → Int32) (ks : Nat → Int32) (mt : Nat → Int32) (mv : Nat → Int32) (sw : Nat → Int32) (hv : Int32) (tk : Nat → Int32) (tn : Nat → Int32) (sc : Nat → Int32) (H : Heap) (locs : List Loc) (ls : Array Slot), va_P D vwCl (kv_lkw ci la ad lm lp lr lq kc kh ks fo kl kp dy mo n pa aE qp qm ql qv qc qe mt mv sw hv tk tn sc) H → va_D A (kv_lkw ci la ad lm lp lr lq kc kh ks fo kl kp dy mo n pa aE qp qm ql qv qc qe mt mv sw hv tk tn sc) → va_S A s.heap H locs → lv_has ls 13 [(0, .ref (ad 0)), (1, .int p1), (2, .ref (la 0)), (3, .ref (la 1)), (4, .ref (la 2)), (5, .ref (la 3)), (7, .int x7), (8, .int x8)] → Rz = pf_L_isSo_311 lp kc kh fo kl kp dy n qp qm qv qc p1  x7 x8 z0 lm lr lq ks mt mv sw hv tk tn sc → W p l en rmL_isSo s m args below meth c H locs 0 0 Q (F0 m 311 ls [.int z0]) := by
    intro x7 x8 z0 lm lr lq ks mt mv sw hv tk tn sc H locs ls  hP hD hS hl e
    rw [pf_L_isSo_311] at e
    refine lv_istore (lv' := [(6, .int z0), (0, .ref (ad 0)), (1, .int p1), (2, .ref (la 0)), (3, .ref (la 1)), (4, .ref (la 2)), (5, .ref (la 3)), (7, .int x7), (8, .int x8)]) hx hb dL_isSo_311 hl (by decide) rfl (fun ls hl => ?_)
    refine lv_iload hx hb dL_isSo_313 (lv_at hl 0 rfl) ?_
    refine lv_if_eq (tgt := 370) hx hb dL_isSo_315 (by decide) (fun c_315 => ?_) (fun c_315 => ?_)
    · have e := e.trans (if_pos c_315)
      refine W.widen (k := 2) (n := 12) (Nat.le_of_ble_eq_true rfl) (Nat.le_of_ble_eq_true rfl) ?_
      exact hb_370 z0 x7 lm lr lq ks mt mv sw hv tk tn sc _ _ _  hP hD hS (lv_sub hl [1, 2, 3, 4, 5, 6, 0, 7] rfl) e
    · have e := e.trans (if_neg c_315)
      refine lv_iload_n hx hb dL_isSo_318 rfl (lv_at hl 2 rfl) ?_
      refine lv_iconst (v := 4) hx hb dL_isSo_319 (by decide) ?_
      refine lv_ishr hx hb dL_isSo_320 ?_
      refine lv_bipush (v := 8) hx hb dL_isSo_321 (by decide) ?_
      have hP : va_P D vwCl ((kv_lw ci la lm lp lr lq) ++ (kv_kw ci ad kc kh ks fo kl kp dy mo n pa aE qp qm ql qv qc qe mt mv sw hv tk tn sc)) H := hP
      have hD : va_D A ((kv_lw ci la lm lp lr lq) ++ (kv_kw ci ad kc kh ks fo kl kp dy mo n pa aE qp qm ql qv qc qe mt mv sw hv tk tn sc)) := hD
      refine kv_calliF (va_runS (As := [.int (p1 >>> (4 &&& 31)), .int 8]) (rest := []) ⟨hx, hb, hml, hown, hts⟩ (c_L_low l D ci la lm lp lr lq (p1 >>> (4 &&& 31)) 8 (kv_q1_n e hRz) H.size) (va_cwS 2 hts gL_isSo_L_low rfl rfl rfl (by decide +kernel) ⟨Nat.le_of_ble_eq_true rfl, Nat.le_of_ble_eq_true rfl⟩) (kv_preS hK (kv_Pl hP) (kv_Dl hD)) rfl rfl hl.1 rfl (lv_room (Nat.le_of_ble_eq_true rfl)) dL_isSo_323 ⟨Nat.le_of_ble_eq_true rfl, Nat.le_of_ble_eq_true rfl⟩) hP hD hS hA (fun r_323 u_323 H locs hw_323 hP hD hS => ?_)
      have e := kv_q1_e e hw_323
      have hP : va_P D vwCl (kv_lkw ci la ad lm lp lr lq kc kh ks fo kl kp dy mo n pa aE qp qm ql qv qc qe mt mv sw hv tk tn sc) H := hP
      have hD : va_D A (kv_lkw ci la ad lm lp lr lq kc kh ks fo kl kp dy mo n pa aE qp qm ql qv qc qe mt mv sw hv tk tn sc) := hD
      refine lv_if_ne (tgt := 370) hx hb dL_isSo_326 (by decide) (fun c_326 => ?_) (fun c_326 => ?_)
      · have e := e.trans (if_neg c_326)
        refine W.widen (k := 2) (n := 12) (Nat.le_of_ble_eq_true rfl) (Nat.le_of_ble_eq_true rfl) ?_
        exact hb_370 z0 x7 lm lr lq ks mt mv sw hv tk tn sc _ _ _  hP hD hS (lv_sub hl [1, 2, 3, 4, 5, 6, 0, 7] rfl) e
      · have e := e.trans (if_pos c_326)
        refine lv_aload_n hx hb dL_isSo_329 rfl (lv_at hl 1 rfl) ?_
        refine lv_iconst (v := 5) hx hb dL_isSo_330 (by decide) ?_
        refine lv_iload hx hb dL_isSo_331 (lv_at hl 7 rfl) ?_
        refine lv_iconst (v := 0) hx hb dL_isSo_333 (by decide) ?_
        refine lv_iconst (v := 0) hx hb dL_isSo_334 (by decide) ?_
        refine lv_iconst (v := 0) hx hb dL_isSo_335 (by decide) ?_
        have hP : va_P D vwCl ((kv_kw ci ad kc kh ks fo kl kp dy mo n pa aE qp qm ql qv qc qe mt mv sw hv tk tn sc) ++ (kv_lw ci la lm lp lr lq)) H := kv_commP hP
        have hD : va_D A ((kv_kw ci ad kc kh ks fo kl kp dy mo n pa aE qp qm ql qv qc qe mt mv sw hv tk tn sc) ++ (kv_lw ci la lm lp lr lq)) := kv_commD hD
        refine kv_calliF (vx_runSW (As := [.ref (ad 0), .int 5, .int x7, .int 0, .int 0, .int 0]) (rest := []) ⟨hx, hb, hml, hown, hts⟩ (c_L_calls_5 l hl9 D ci ad aS kc kh ks fo kl kp dy mo n pa aE qp qm ql qv qc qe mt mv sw hv tk tn sc x7 0 0 0 (kv_q8_n e hRz) H.size) (vx_cwSW 6 hts gL_isSo_L_calls rfl rfl rfl (by decide +kernel) ⟨Nat.le_of_ble_eq_true rfl, Nat.le_of_ble_eq_true rfl⟩) (kv_preSW hK (kv_Pl hP) (kv_Dl hD) hT hT2 hN hS hA) rfl rfl hl.1 rfl (lv_room (Nat.le_of_ble_eq_true rfl)) dL_isSo_336 ⟨Nat.le_of_ble_eq_true rfl, Nat.le_of_ble_eq_true rfl⟩) hP hD hS hA (fun r_336 u_336 H locs hw_336 hP hD hS => ?_)
        obtain ⟨o0_336, o1_336, o2_336, o3_336, o4_336, o5_336, o6_336⟩ := u_336
        have e := kv_q8_e e hw_336
        have hP : va_P D vwCl (kv_lkw ci la ad lm lp lr lq kc kh ks fo kl kp dy mo n pa aE qp qm ql qv qc qe o0_336 o1_336 o2_336 o3_336 o4_336 o5_336 o6_336) H := kv_commP hP
        have hD : va_D A (kv_lkw ci la ad lm lp lr lq kc kh ks fo kl kp dy mo n pa aE qp qm ql qv qc qe o0_336 o1_336 o2_336 o3_336 o4_336 o5_336 o6_336) := kv_commD hD
        refine lv_iload hx hb dL_isSo_339 (lv_at hl 7 rfl) ?_
        refine lv_aload hx hb dL_isSo_341 (lv_at hl 5 rfl) ?_
        refine lv_aload hx hb dL_isSo_343 (lv_at hl 6 rfl) ?_
        have hP : va_P D vwCl ((kv_lw ci la lm lp lr lq) ++ (kv_kw ci ad kc kh ks fo kl kp dy mo n pa aE qp qm ql qv qc qe o0_336 o1_336 o2_336 o3_336 o4_336 o5_336 o6_336)) H := hP
        have hD : va_D A ((kv_lw ci la lm lp lr lq) ++ (kv_kw ci ad kc kh ks fo kl kp dy mo n pa aE qp qm ql qv qc qe o0_336 o1_336 o2_336 o3_336 o4_336 o5_336 o6_336)) := hD
        refine kv_calliF (va_runS (As := [.int x7, .ref (la 2), .ref (la 3)]) (rest := [.int r_336]) ⟨hx, hb, hml, hown, hts⟩ (c_L_many l D ci la lm lp lr lq x7 (kv_q1_n e hRz) H.size) (va_cwS 3 hts gL_isSo_L_many rfl rfl rfl (by decide +kernel) ⟨Nat.le_of_ble_eq_true rfl, Nat.le_of_ble_eq_true rfl⟩) (kv_preS hK (kv_Pl hP) (kv_Dl hD)) rfl rfl hl.1 rfl (lv_room (Nat.le_of_ble_eq_true rfl)) dL_isSo_345 ⟨Nat.le_of_ble_eq_true rfl, Nat.le_of_ble_eq_true rfl⟩) hP hD hS hA (fun r_345 u_345 H locs hw_345 hP hD hS => ?_)
        have e := kv_q1_e e hw_345
        have hP : va_P D vwCl (kv_lkw ci la ad lm lp lr lq kc kh ks fo kl kp dy mo n pa aE qp qm ql qv qc qe o0_336 o1_336 o2_336 o3_336 o4_336 o5_336 o6_336) H := hP
        have hD : va_D A (kv_lkw ci la ad lm lp lr lq kc kh ks fo kl kp dy mo n pa aE qp qm ql qv qc qe o0_336 o1_336 o2_336 o3_336 o4_336 o5_336 o6_336) := hD
        refine lv_iconst (v := 2) hx hb dL_isSo_348 (by decide) ?_
        refine lv_icmp_le (tgt := 358) hx hb dL_isSo_349 (by decide) (fun c_349 => ?_) (fun c_349 => ?_)
        · have e := e.trans (if_pos c_349)
          refine lv_iload hx hb dL_isSo_358 (lv_at hl 8 rfl) ?_
          exact hb_360 x7 r_336 x8 lm lr lq ks o0_336 o1_336 o2_336 o3_336 o4_336 o5_336 o6_336 _ _ _  hP hD hS (lv_sub hl [1, 2, 3, 4, 5, 6, 7] rfl) e
        · have e := e.trans (if_neg c_349)
          refine lv_sipush (v := (-2003)) hx hb dL_isSo_352 (by decide) ?_
          refine lv_goto (tgt := 360) hx hb dL_isSo_355 (by decide) ?_
          exact hb_360 x7 r_336 (-2003) lm lr lq ks o0_336 o1_336 o2_336 o3_336 o4_336 o5_336 o6_336 _ _ _  hP hD hS (lv_sub hl [1, 2, 3, 4, 5, 6, 7] rfl) e
  have hb_242 : ∀ (x6 : Int32) (lm : Nat → Int32) (lr : Nat → Int32) (lq : Nat → Int32) (ks : Nat → Int32) (mt : Nat → Int32) (mv : Nat → Int32) (sw : Nat → Int32) (hv : Int32) (tk : Nat → Int32) (tn : Nat → Int32) (sc : Nat → Int32) (H : Heap) (locs : List Loc) (ls : Array Slot), va_P D vwCl (kv_lkw ci la ad lm lp lr lq kc kh ks fo kl kp dy mo n pa aE qp qm ql qv qc qe mt mv sw hv tk tn sc) H → va_D A (kv_lkw ci la ad lm lp lr lq kc kh ks fo kl kp dy mo n pa aE qp qm ql qv qc qe mt mv sw hv tk tn sc) → va_S A s.heap H locs → lv_has ls 13 [(0, .ref (ad 0)), (1, .int p1), (2, .ref (la 0)), (3, .ref (la 1)), (4, .ref (la 2)), (5, .ref (la 3)), (6, .int x6)] → Rz = pf_L_isSo_242 lp kc kh fo kl kp dy n qp qm qv qc p1  x6 lm lr lq ks mt mv sw hv tk tn sc → W p l en rmL_isSo s m args below meth c H locs 0 0 Q (F0 m 242 ls []) := by
    intro x6 lm lr lq ks mt mv sw hv tk tn sc H locs ls  hP hD hS hl e
    rw [pf_L_isSo_242] at e
    refine lv_iload_n hx hb dL_isSo_242 rfl (lv_at hl 1 rfl) ?_
    refine lv_iconst (v := 2) hx hb dL_isSo_243 (by decide) ?_
    have hP : va_P D vwCl ((kv_lw ci la lm lp lr lq) ++ (kv_kw ci ad kc kh ks fo kl kp dy mo n pa aE qp qm ql qv qc qe mt mv sw hv tk tn sc)) H := hP
    have hD : va_D A ((kv_lw ci la lm lp lr lq) ++ (kv_kw ci ad kc kh ks fo kl kp dy mo n pa aE qp qm ql qv qc qe mt mv sw hv tk tn sc)) := hD
    refine kv_calliF (va_runS (As := [.int p1, .int 2]) (rest := []) ⟨hx, hb, hml, hown, hts⟩ (c_L_low l D ci la lm lp lr lq p1 2 (kv_q1_n e hRz) H.size) (va_cwS 2 hts gL_isSo_L_low rfl rfl rfl (by decide +kernel) ⟨Nat.le_of_ble_eq_true rfl, Nat.le_of_ble_eq_true rfl⟩) (kv_preS hK (kv_Pl hP) (kv_Dl hD)) rfl rfl hl.1 rfl (lv_room (Nat.le_of_ble_eq_true rfl)) dL_isSo_244 ⟨Nat.le_of_ble_eq_true rfl, Nat.le_of_ble_eq_true rfl⟩) hP hD hS hA (fun r_244 u_244 H locs hw_244 hP hD hS => ?_)
    have e := kv_q1_e e hw_244
    have hP : va_P D vwCl (kv_lkw ci la ad lm lp lr lq kc kh ks fo kl kp dy mo n pa aE qp qm ql qv qc qe mt mv sw hv tk tn sc) H := hP
    have hD : va_D A (kv_lkw ci la ad lm lp lr lq kc kh ks fo kl kp dy mo n pa aE qp qm ql qv qc qe mt mv sw hv tk tn sc) := hD
    refine lv_istore (lv' := [(7, .int r_244), (0, .ref (ad 0)), (1, .int p1), (2, .ref (la 0)), (3, .ref (la 1)), (4, .ref (la 2)), (5, .ref (la 3)), (6, .int x6)]) hx hb dL_isSo_247 hl (by decide) rfl (fun ls hl => ?_)
    refine lv_iload hx hb dL_isSo_249 (lv_at hl 0 rfl) ?_
    refine lv_aload_n hx hb dL_isSo_251 rfl (lv_at hl 3 rfl) ?_
    refine lv_aload_n hx hb dL_isSo_252 rfl (lv_at hl 4 rfl) ?_
    refine lv_aload hx hb dL_isSo_253 (lv_at hl 5 rfl) ?_
    refine lv_aload hx hb dL_isSo_255 (lv_at hl 6 rfl) ?_
    have hP : va_P D vwCl ((kv_lw ci la lm lp lr lq) ++ (kv_kw ci ad kc kh ks fo kl kp dy mo n pa aE qp qm ql qv qc qe mt mv sw hv tk tn sc)) H := hP
    have hD : va_D A ((kv_lw ci la lm lp lr lq) ++ (kv_kw ci ad kc kh ks fo kl kp dy mo n pa aE qp qm ql qv qc qe mt mv sw hv tk tn sc)) := hD
    refine kv_calliF (va_runS (As := [.int r_244, .ref (la 0), .ref (la 1), .ref (la 2), .ref (la 3)]) (rest := []) ⟨hx, hb, hml, hown, hts⟩ (c_L_gap l D ci la lm lp lr lq r_244 (kv_q2_n e hRz) H.size) (va_cwS 5 hts gL_isSo_L_gap rfl rfl rfl (by decide +kernel) ⟨Nat.le_of_ble_eq_true rfl, Nat.le_of_ble_eq_true rfl⟩) (kv_preS hK (kv_Pl hP) (kv_Dl hD)) rfl rfl hl.1 rfl (lv_room (Nat.le_of_ble_eq_true rfl)) dL_isSo_257 ⟨Nat.le_of_ble_eq_true rfl, Nat.le_of_ble_eq_true rfl⟩) hP hD hS hA (fun r_257 u_257 H locs hw_257 hP hD hS => ?_)
    have e := kv_q2_e e hw_257
    have hP : va_P D vwCl (kv_lkw ci la ad lm lp lr u_257 kc kh ks fo kl kp dy mo n pa aE qp qm ql qv qc qe mt mv sw hv tk tn sc) H := hP
    have hD : va_D A (kv_lkw ci la ad lm lp lr u_257 kc kh ks fo kl kp dy mo n pa aE qp qm ql qv qc qe mt mv sw hv tk tn sc) := hD
    refine lv_istore (lv' := [(8, .int r_257), (7, .int r_244), (0, .ref (ad 0)), (1, .int p1), (2, .ref (la 0)), (3, .ref (la 1)), (4, .ref (la 2)), (5, .ref (la 3)), (6, .int x6)]) hx hb dL_isSo_260 hl (by decide) rfl (fun ls hl => ?_)
    refine lv_iload hx hb dL_isSo_262 (lv_at hl 8 rfl) ?_
    refine lv_if_eq (tgt := 310) hx hb dL_isSo_264 (by decide) (fun c_264 => ?_) (fun c_264 => ?_)
    · have e := e.trans (if_pos c_264)
      refine lv_iconst (v := 0) hx hb dL_isSo_310 (by decide) ?_
      exact hb_311 r_244 r_257 0 lm lr u_257 ks mt mv sw hv tk tn sc _ _ _  hP hD hS (lv_sub hl [2, 3, 4, 5, 6, 7, 1, 0] rfl) e
    · have e := e.trans (if_neg c_264)
      refine lv_aload_n hx hb dL_isSo_267 rfl (lv_at hl 2 rfl) ?_
      refine lv_iload hx hb dL_isSo_268 (lv_at hl 1 rfl) ?_
      have hP : va_P D vwCl ((kv_kw ci ad kc kh ks fo kl kp dy mo n pa aE qp qm ql qv qc qe mt mv sw hv tk tn sc) ++ (kv_lw ci la lm lp lr u_257)) H := kv_commP hP
      have hD : va_D A ((kv_kw ci ad kc kh ks fo kl kp dy mo n pa aE qp qm ql qv qc qe mt mv sw hv tk tn sc) ++ (kv_lw ci la lm lp lr u_257)) := kv_commD hD
      refine kv_calliF (va_runV (As := [.int r_244]) (rest := []) ⟨hx, hb, hml, hown, hts⟩ (c_X2n_latest l D ci ad kc kh ks fo kl kp dy mo n pa aE qp qm ql qv qc qe mt mv sw hv tk tn sc r_244 (kv_q1_n e hRz) H.size) (cwV 1 hts gL_isSo_X2_latest rfl rfl rfl (by decide +kernel) ⟨Nat.le_of_ble_eq_true rfl, Nat.le_of_ble_eq_true rfl⟩) (kv_preV hK (kv_Pl hP) (kv_Dl hD) (r := (RX2, TX2, 9)) (q0 := 0) (k := 3) rfl rfl rfl) rfl rfl hl.1 rfl (lv_room (Nat.le_of_ble_eq_true rfl)) dL_isSo_270 ⟨Nat.le_of_ble_eq_true rfl, Nat.le_of_ble_eq_true rfl⟩) hP hD hS hA (fun r_270 u_270 H locs hw_270 hP hD hS => ?_)
      have e := kv_q1_e e hw_270
      have hP : va_P D vwCl (kv_lkw ci la ad lm lp lr u_257 kc kh ks fo kl kp dy mo n pa aE qp qm ql qv qc qe mt mv sw hv tk tn sc) H := kv_commP hP
      have hD : va_D A (kv_lkw ci la ad lm lp lr u_257 kc kh ks fo kl kp dy mo n pa aE qp qm ql qv qc qe mt mv sw hv tk tn sc) := kv_commD hD
      refine lv_aload_n hx hb dL_isSo_273 rfl (lv_at hl 5 rfl) ?_
      refine lv_iconst (v := 2) hx hb dL_isSo_274 (by decide) ?_
      refine lv_iload hx hb dL_isSo_275 (lv_at hl 1 rfl) ?_
      refine lv_imul hx hb dL_isSo_277 ?_
      obtain ⟨hi_278, e⟩ := kv_G_e e hRz
      refine kv_iald hx hb hK hP 1 0 hi_278 dL_isSo_278 rfl rfl (fun y_278 ey_278 => ?_)
      have e := kv_T_e e ey_278
      refine lv_icmp_ne (tgt := 310) hx hb dL_isSo_279 (by decide) (fun c_279 => ?_) (fun c_279 => ?_)
      · have e := e.trans (if_neg c_279)
        refine lv_iconst (v := 0) hx hb dL_isSo_310 (by decide) ?_
        exact hb_311 r_244 r_257 0 lm lr u_257 ks mt mv sw hv tk tn sc _ _ _  hP hD hS (lv_sub hl [2, 3, 4, 5, 6, 7, 1, 0] rfl) e
      · have e := e.trans (if_pos c_279)
        refine lv_aload_n hx hb dL_isSo_282 rfl (lv_at hl 2 rfl) ?_
        refine lv_iload hx hb dL_isSo_283 (lv_at hl 1 rfl) ?_
        have hP : va_P D vwCl ((kv_kw ci ad kc kh ks fo kl kp dy mo n pa aE qp qm ql qv qc qe mt mv sw hv tk tn sc) ++ (kv_lw ci la lm lp lr u_257)) H := kv_commP hP
        have hD : va_D A ((kv_kw ci ad kc kh ks fo kl kp dy mo n pa aE qp qm ql qv qc qe mt mv sw hv tk tn sc) ++ (kv_lw ci la lm lp lr u_257)) := kv_commD hD
        refine kv_calliF (va_runV (As := [.int r_244]) (rest := []) ⟨hx, hb, hml, hown, hts⟩ (c_X2n_gap l D ci ad kc kh ks fo kl kp dy mo n pa aE qp qm ql qv qc qe mt mv sw hv tk tn sc r_244 (kv_q6_n e hRz) H.size) (cwV 1 hts gL_isSo_X2_gap rfl rfl rfl (by decide +kernel) ⟨Nat.le_of_ble_eq_true rfl, Nat.le_of_ble_eq_true rfl⟩) (kv_preV hK (kv_Pl hP) (kv_Dl hD) (r := (RX2, TX2, 9)) (q0 := 0) (k := 3) rfl rfl rfl) rfl rfl hl.1 rfl (lv_room (Nat.le_of_ble_eq_true rfl)) dL_isSo_285 ⟨Nat.le_of_ble_eq_true rfl, Nat.le_of_ble_eq_true rfl⟩) hP hD hS hA (fun r_285 u_285 H locs hw_285 hP hD hS => ?_)
        obtain ⟨o0_285, o1_285, o2_285, o3_285, o4_285⟩ := u_285
        have e := kv_q6_e e hw_285
        have hP : va_P D vwCl (kv_lkw ci la ad lm lp lr u_257 kc kh ks fo kl kp dy mo n pa aE qp qm ql qv qc qe o0_285 o1_285 o2_285 o3_285 o4_285 tn sc) H := kv_commP hP
        have hD : va_D A (kv_lkw ci la ad lm lp lr u_257 kc kh ks fo kl kp dy mo n pa aE qp qm ql qv qc qe o0_285 o1_285 o2_285 o3_285 o4_285 tn sc) := kv_commD hD
        refine lv_iload hx hb dL_isSo_288 (lv_at hl 0 rfl) ?_
        refine lv_icmp_ne (tgt := 310) hx hb dL_isSo_290 (by decide) (fun c_290 => ?_) (fun c_290 => ?_)
        · have e := e.trans (if_neg c_290)
          refine lv_iconst (v := 0) hx hb dL_isSo_310 (by decide) ?_
          exact hb_311 r_244 r_257 0 lm lr u_257 ks o0_285 o1_285 o2_285 o3_285 o4_285 tn sc _ _ _  hP hD hS (lv_sub hl [2, 3, 4, 5, 6, 7, 1, 0] rfl) e
        · have e := e.trans (if_pos c_290)
          refine lv_aload_n hx hb dL_isSo_293 rfl (lv_at hl 2 rfl) ?_
          refine lv_iload hx hb dL_isSo_294 (lv_at hl 1 rfl) ?_
          have hP : va_P D vwCl ((kv_kw ci ad kc kh ks fo kl kp dy mo n pa aE qp qm ql qv qc qe o0_285 o1_285 o2_285 o3_285 o4_285 tn sc) ++ (kv_lw ci la lm lp lr u_257)) H := kv_commP hP
          have hD : va_D A ((kv_kw ci ad kc kh ks fo kl kp dy mo n pa aE qp qm ql qv qc qe o0_285 o1_285 o2_285 o3_285 o4_285 tn sc) ++ (kv_lw ci la lm lp lr u_257)) := kv_commD hD
          refine kv_calliF (va_runV (As := [.int r_244]) (rest := []) ⟨hx, hb, hml, hown, hts⟩ (c_X2n_uncovered l D ci ad kc kh ks fo kl kp dy mo n pa aE qp qm ql qv qc qe o0_285 o1_285 o2_285 o3_285 o4_285 tn sc r_244 (kv_q6_n e hRz) H.size) (cwV 1 hts gL_isSo_X2_uncovered rfl rfl rfl (by decide +kernel) ⟨Nat.le_of_ble_eq_true rfl, Nat.le_of_ble_eq_true rfl⟩) (kv_preV hK (kv_Pl hP) (kv_Dl hD) (r := (RX2, TX2, 9)) (q0 := 0) (k := 3) rfl rfl rfl) rfl rfl hl.1 rfl (lv_room (Nat.le_of_ble_eq_true rfl)) dL_isSo_296 ⟨Nat.le_of_ble_eq_true rfl, Nat.le_of_ble_eq_true rfl⟩) hP hD hS hA (fun r_296 u_296 H locs hw_296 hP hD hS => ?_)
          obtain ⟨o0_296, o1_296, o2_296, o3_296, o4_296⟩ := u_296
          have e := kv_q6_e e hw_296
          have hP : va_P D vwCl (kv_lkw ci la ad lm lp lr u_257 kc kh ks fo kl kp dy mo n pa aE qp qm ql qv qc qe o0_296 o1_296 o2_296 o3_296 o4_296 tn sc) H := kv_commP hP
          have hD : va_D A (kv_lkw ci la ad lm lp lr u_257 kc kh ks fo kl kp dy mo n pa aE qp qm ql qv qc qe o0_296 o1_296 o2_296 o3_296 o4_296 tn sc) := kv_commD hD
          refine lv_aload hx hb dL_isSo_299 (lv_at hl 7 rfl) ?_
          refine lv_iconst (v := 2) hx hb dL_isSo_301 (by decide) ?_
          obtain ⟨hi_302, e⟩ := kv_G_e e hRz
          refine kv_iald hx hb hK hP 3 0 hi_302 dL_isSo_302 rfl rfl (fun y_302 ey_302 => ?_)
          have e := kv_T_e e ey_302
          refine lv_icmp_ne (tgt := 310) hx hb dL_isSo_303 (by decide) (fun c_303 => ?_) (fun c_303 => ?_)
          · have e := e.trans (if_neg c_303)
            refine lv_iconst (v := 0) hx hb dL_isSo_310 (by decide) ?_
            exact hb_311 r_244 r_257 0 lm lr u_257 ks o0_296 o1_296 o2_296 o3_296 o4_296 tn sc _ _ _  hP hD hS (lv_sub hl [2, 3, 4, 5, 6, 7, 1, 0] rfl) e
          · have e := e.trans (if_pos c_303)
            refine lv_iconst (v := 1) hx hb dL_isSo_306 (by decide) ?_
            refine lv_goto (tgt := 311) hx hb dL_isSo_307 (by decide) ?_
            exact hb_311 r_244 r_257 1 lm lr u_257 ks o0_296 o1_296 o2_296 o3_296 o4_296 tn sc _ _ _  hP hD hS (lv_sub hl [2, 3, 4, 5, 6, 7, 1, 0] rfl) e
  have hb_146 : ∀ (n_146 : Nat), ∀ (x6 : Int32) (x7 : Int32) (lm : Nat → Int32) (lr : Nat → Int32) (lq : Nat → Int32) (ks : Nat → Int32) (mt : Nat → Int32) (mv : Nat → Int32) (sw : Nat → Int32) (hv : Int32) (tk : Nat → Int32) (tn : Nat → Int32) (sc : Nat → Int32) (H : Heap) (locs : List Loc) (ls : Array Slot), va_P D vwCl (kv_lkw ci la ad lm lp lr lq kc kh ks fo kl kp dy mo n pa aE qp qm ql qv qc qe mt mv sw hv tk tn sc) H → va_D A (kv_lkw ci la ad lm lp lr lq kc kh ks fo kl kp dy mo n pa aE qp qm ql qv qc qe mt mv sw hv tk tn sc) → va_S A s.heap H locs → lv_has ls 13 [(0, .ref (ad 0)), (1, .int p1), (2, .ref (la 0)), (3, .ref (la 1)), (4, .ref (la 2)), (5, .ref (la 3)), (6, .int x6), (7, .int x7)] → Rz = pf_L_isSo_146 lp kc kh fo kl kp dy n qp qm qv qc p1  n_146 x6 x7 lm lr lq ks mt mv sw hv tk tn sc → W p l en rmL_isSo s m args below meth c H locs 0 0 Q (F0 m 146 ls []) := by
    intro n_146
    induction n_146 with
    | zero =>
      intro x6 x7 lm lr lq ks mt mv sw hv tk tn sc H locs ls  _ _ _ _ e
      exact absurd e hRz
    | succ n_146 ih_146 =>
      have hb_234 : ∀ (x7 : Int32) (z0 : Int32) (lm : Nat → Int32) (lr : Nat → Int32) (lq : Nat → Int32) (ks : Nat → Int32) (mt : Nat → Int32) (mv : Nat → Int32) (sw : Nat → Int32) (hv : Int32) (tk : Nat → Int32) (tn : Nat → Int32) (sc : Nat → Int32) (H : Heap) (locs : List Loc) (ls : Array Slot), va_P D vwCl (kv_lkw ci la ad lm lp lr lq kc kh ks fo kl kp dy mo n pa aE qp qm ql qv qc qe mt mv sw hv tk tn sc) H → va_D A (kv_lkw ci la ad lm lp lr lq kc kh ks fo kl kp dy mo n pa aE qp qm ql qv qc qe mt mv sw hv tk tn sc) → va_S A s.heap H locs → lv_has ls 13 [(0, .ref (ad 0)), (1, .int p1), (2, .ref (la 0)), (3, .ref (la 1)), (4, .ref (la 2)), (5, .ref (la 3)), (7, .int x7)] → Rz = pf_L_isSo_234 lp kc kh fo kl kp dy n qp qm qv qc p1 (pf_L_isSo_146 lp kc kh fo kl kp dy n qp qm qv qc p1  n_146) x7 z0 lm lr lq ks mt mv sw hv tk tn sc → W p l en rmL_isSo s m args below meth c H locs 0 0 Q (F0 m 234 ls [.int z0]) := by
        intro x7 z0 lm lr lq ks mt mv sw hv tk tn sc H locs ls  hP hD hS hl e
        rw [pf_L_isSo_234] at e
        refine lv_istore (lv' := [(6, .int z0), (0, .ref (ad 0)), (1, .int p1), (2, .ref (la 0)), (3, .ref (la 1)), (4, .ref (la 2)), (5, .ref (la 3)), (7, .int x7)]) hx hb dL_isSo_234 hl (by decide) rfl (fun ls hl => ?_)
        refine lv_iinc (v := x7 + 1) (lv' := [(7, .int (x7 + 1)), (6, .int z0), (0, .ref (ad 0)), (1, .int p1), (2, .ref (la 0)), (3, .ref (la 1)), (4, .ref (la 2)), (5, .ref (la 3))]) hx hb dL_isSo_236 hl (k := 7) rfl rfl (by decide) rfl (fun ls hl => ?_)
        refine lv_goto (tgt := 146) hx hb dL_isSo_239 (by decide) ?_
        exact ih_146 z0 (x7 + 1) lm lr lq ks mt mv sw hv tk tn sc _ _ _  hP hD hS (lv_sub hl [2, 3, 4, 5, 6, 7, 1, 0] rfl) e
      intro x6 x7 lm lr lq ks mt mv sw hv tk tn sc H locs ls  hP hD hS hl e
      rw [pf_L_isSo_146, pf_L_isSo_146b] at e
      refine lv_iload hx hb dL_isSo_146 (lv_at hl 7 rfl) ?_
      refine lv_aload hx hb dL_isSo_148 (lv_at hl 5 rfl) ?_
      refine lv_iconst (v := 1) hx hb dL_isSo_150 (by decide) ?_
      obtain ⟨hi_151, e⟩ := kv_G_e e hRz
      refine kv_iald hx hb hK hP 3 0 hi_151 dL_isSo_151 rfl rfl (fun y_151 ey_151 => ?_)
      have e := kv_T_e e ey_151
      refine lv_icmp_ge (tgt := 242) hx hb dL_isSo_152 (by decide) (fun c_152 => ?_) (fun c_152 => ?_)
      · have e := e.trans (if_pos c_152)
        exact hb_242 x6 lm lr lq ks mt mv sw hv tk tn sc _ _ _  hP hD hS (lv_sub hl [0, 1, 2, 3, 4, 5, 6] rfl) e
      · have e := e.trans (if_neg c_152)
        refine lv_iload hx hb dL_isSo_155 (lv_at hl 6 rfl) ?_
        refine lv_if_eq (tgt := 242) hx hb dL_isSo_157 (by decide) (fun c_157 => ?_) (fun c_157 => ?_)
        · have e := e.trans (if_pos c_157)
          exact hb_242 x6 lm lr lq ks mt mv sw hv tk tn sc _ _ _  hP hD hS (lv_sub hl [0, 1, 2, 3, 4, 5, 6] rfl) e
        · have e := e.trans (if_neg c_157)
          refine lv_iload_n hx hb dL_isSo_160 rfl (lv_at hl 1 rfl) ?_
          refine lv_iload hx hb dL_isSo_161 (lv_at hl 7 rfl) ?_
          refine lv_ishr hx hb dL_isSo_163 ?_
          refine lv_iconst (v := 5) hx hb dL_isSo_164 (by decide) ?_
          have hP : va_P D vwCl ((kv_lw ci la lm lp lr lq) ++ (kv_kw ci ad kc kh ks fo kl kp dy mo n pa aE qp qm ql qv qc qe mt mv sw hv tk tn sc)) H := hP
          have hD : va_D A ((kv_lw ci la lm lp lr lq) ++ (kv_kw ci ad kc kh ks fo kl kp dy mo n pa aE qp qm ql qv qc qe mt mv sw hv tk tn sc)) := hD
          refine kv_calliF (va_runS (As := [.int (p1 >>> (x7 &&& 31)), .int 5]) (rest := []) ⟨hx, hb, hml, hown, hts⟩ (c_L_low l D ci la lm lp lr lq (p1 >>> (x7 &&& 31)) 5 (kv_q1_n e hRz) H.size) (va_cwS 2 hts gL_isSo_L_low rfl rfl rfl (by decide +kernel) ⟨Nat.le_of_ble_eq_true rfl, Nat.le_of_ble_eq_true rfl⟩) (kv_preS hK (kv_Pl hP) (kv_Dl hD)) rfl rfl hl.1 rfl (lv_room (Nat.le_of_ble_eq_true rfl)) dL_isSo_165 ⟨Nat.le_of_ble_eq_true rfl, Nat.le_of_ble_eq_true rfl⟩) hP hD hS hA (fun r_165 u_165 H locs hw_165 hP hD hS => ?_)
          have e := kv_q1_e e hw_165
          have hP : va_P D vwCl (kv_lkw ci la ad lm lp lr lq kc kh ks fo kl kp dy mo n pa aE qp qm ql qv qc qe mt mv sw hv tk tn sc) H := hP
          have hD : va_D A (kv_lkw ci la ad lm lp lr lq kc kh ks fo kl kp dy mo n pa aE qp qm ql qv qc qe mt mv sw hv tk tn sc) := hD
          refine lv_istore (lv' := [(8, .int r_165), (0, .ref (ad 0)), (1, .int p1), (2, .ref (la 0)), (3, .ref (la 1)), (4, .ref (la 2)), (5, .ref (la 3)), (6, .int x6), (7, .int x7)]) hx hb dL_isSo_168 hl (by decide) rfl (fun ls hl => ?_)
          refine lv_aload_n hx hb dL_isSo_170 rfl (lv_at hl 1 rfl) ?_
          refine lv_iload hx hb dL_isSo_171 (lv_at hl 8 rfl) ?_
          have hP : va_P D vwCl ((kv_kw ci ad kc kh ks fo kl kp dy mo n pa aE qp qm ql qv qc qe mt mv sw hv tk tn sc) ++ (kv_lw ci la lm lp lr lq)) H := kv_commP hP
          have hD : va_D A ((kv_kw ci ad kc kh ks fo kl kp dy mo n pa aE qp qm ql qv qc qe mt mv sw hv tk tn sc) ++ (kv_lw ci la lm lp lr lq)) := kv_commD hD
          refine kv_calliF (va_runV (As := [.int x7]) (rest := []) ⟨hx, hb, hml, hown, hts⟩ (c_X2n_countOf l D ci ad kc kh ks fo kl kp dy mo n pa aE qp qm ql qv qc qe mt mv sw hv tk tn sc x7 (kv_q1_n e hRz) H.size) (cwV 1 hts gL_isSo_X2_countOf rfl rfl rfl (by decide +kernel) ⟨Nat.le_of_ble_eq_true rfl, Nat.le_of_ble_eq_true rfl⟩) (kv_preV hK (kv_Pl hP) (kv_Dl hD) (r := (RX2, TX2, 9)) (q0 := 0) (k := 3) rfl rfl rfl) rfl rfl hl.1 rfl (lv_room (Nat.le_of_ble_eq_true rfl)) dL_isSo_173 ⟨Nat.le_of_ble_eq_true rfl, Nat.le_of_ble_eq_true rfl⟩) hP hD hS hA (fun r_173 u_173 H locs hw_173 hP hD hS => ?_)
          have e := kv_q1_e e hw_173
          have hP : va_P D vwCl (kv_lkw ci la ad lm lp lr lq kc kh ks fo kl kp dy mo n pa aE qp qm ql qv qc qe mt mv sw hv tk tn sc) H := kv_commP hP
          have hD : va_D A (kv_lkw ci la ad lm lp lr lq kc kh ks fo kl kp dy mo n pa aE qp qm ql qv qc qe mt mv sw hv tk tn sc) := kv_commD hD
          refine lv_aload hx hb dL_isSo_176 (lv_at hl 5 rfl) ?_
          refine lv_bipush (v := 6) hx hb dL_isSo_178 (by decide) ?_
          refine lv_iload hx hb dL_isSo_180 (lv_at hl 8 rfl) ?_
          refine lv_imul hx hb dL_isSo_182 ?_
          refine lv_iconst (v := 2) hx hb dL_isSo_183 (by decide) ?_
          refine lv_iadd hx hb dL_isSo_184 ?_
          obtain ⟨hi_185, e⟩ := kv_G_e e hRz
          refine kv_iald hx hb hK hP 2 0 hi_185 dL_isSo_185 rfl rfl (fun y_185 ey_185 => ?_)
          have e := kv_T_e e ey_185
          refine lv_icmp_ne (tgt := 233) hx hb dL_isSo_186 (by decide) (fun c_186 => ?_) (fun c_186 => ?_)
          · have e := e.trans (if_neg c_186)
            refine lv_iconst (v := 0) hx hb dL_isSo_233 (by decide) ?_
            exact hb_234 x7 0 lm lr lq ks mt mv sw hv tk tn sc _ _ _  hP hD hS (lv_sub hl [1, 2, 3, 4, 5, 6, 8] rfl) e
          · have e := e.trans (if_pos c_186)
            refine lv_aload_n hx hb dL_isSo_189 rfl (lv_at hl 1 rfl) ?_
            refine lv_iload hx hb dL_isSo_190 (lv_at hl 8 rfl) ?_
            have hP : va_P D vwCl ((kv_kw ci ad kc kh ks fo kl kp dy mo n pa aE qp qm ql qv qc qe mt mv sw hv tk tn sc) ++ (kv_lw ci la lm lp lr lq)) H := kv_commP hP
            have hD : va_D A ((kv_kw ci ad kc kh ks fo kl kp dy mo n pa aE qp qm ql qv qc qe mt mv sw hv tk tn sc) ++ (kv_lw ci la lm lp lr lq)) := kv_commD hD
            refine kv_calliF (va_runV (As := [.int x7]) (rest := []) ⟨hx, hb, hml, hown, hts⟩ (c_X2n_versionOf l D ci ad kc kh ks fo kl kp dy mo n pa aE qp qm ql qv qc qe mt mv sw hv tk tn sc x7 (kv_q1_n e hRz) H.size) (cwV 1 hts gL_isSo_X2_versionOf rfl rfl rfl (by decide +kernel) ⟨Nat.le_of_ble_eq_true rfl, Nat.le_of_ble_eq_true rfl⟩) (kv_preV hK (kv_Pl hP) (kv_Dl hD) (r := (RX2, TX2, 9)) (q0 := 0) (k := 3) rfl rfl rfl) rfl rfl hl.1 rfl (lv_room (Nat.le_of_ble_eq_true rfl)) dL_isSo_192 ⟨Nat.le_of_ble_eq_true rfl, Nat.le_of_ble_eq_true rfl⟩) hP hD hS hA (fun r_192 u_192 H locs hw_192 hP hD hS => ?_)
            have e := kv_q1_e e hw_192
            have hP : va_P D vwCl (kv_lkw ci la ad lm lp lr lq kc kh ks fo kl kp dy mo n pa aE qp qm ql qv qc qe mt mv sw hv tk tn sc) H := kv_commP hP
            have hD : va_D A (kv_lkw ci la ad lm lp lr lq kc kh ks fo kl kp dy mo n pa aE qp qm ql qv qc qe mt mv sw hv tk tn sc) := kv_commD hD
            refine lv_aload hx hb dL_isSo_195 (lv_at hl 5 rfl) ?_
            refine lv_bipush (v := 6) hx hb dL_isSo_197 (by decide) ?_
            refine lv_iload hx hb dL_isSo_199 (lv_at hl 8 rfl) ?_
            refine lv_imul hx hb dL_isSo_201 ?_
            refine lv_iconst (v := 4) hx hb dL_isSo_202 (by decide) ?_
            refine lv_iadd hx hb dL_isSo_203 ?_
            obtain ⟨hi_204, e⟩ := kv_G_e e hRz
            refine kv_iald hx hb hK hP 2 0 hi_204 dL_isSo_204 rfl rfl (fun y_204 ey_204 => ?_)
            have e := kv_T_e e ey_204
            refine lv_icmp_ne (tgt := 233) hx hb dL_isSo_205 (by decide) (fun c_205 => ?_) (fun c_205 => ?_)
            · have e := e.trans (if_neg c_205)
              refine lv_iconst (v := 0) hx hb dL_isSo_233 (by decide) ?_
              exact hb_234 x7 0 lm lr lq ks mt mv sw hv tk tn sc _ _ _  hP hD hS (lv_sub hl [1, 2, 3, 4, 5, 6, 8] rfl) e
            · have e := e.trans (if_pos c_205)
              refine lv_aload_n hx hb dL_isSo_208 rfl (lv_at hl 1 rfl) ?_
              refine lv_iload hx hb dL_isSo_209 (lv_at hl 8 rfl) ?_
              refine lv_iload hx hb dL_isSo_211 (lv_at hl 0 rfl) ?_
              have hP : va_P D vwCl ((kv_kw ci ad kc kh ks fo kl kp dy mo n pa aE qp qm ql qv qc qe mt mv sw hv tk tn sc) ++ (kv_lw ci la lm lp lr lq)) H := kv_commP hP
              have hD : va_D A ((kv_kw ci ad kc kh ks fo kl kp dy mo n pa aE qp qm ql qv qc qe mt mv sw hv tk tn sc) ++ (kv_lw ci la lm lp lr lq)) := kv_commD hD
              refine kv_calliF (va_runV (As := [.int x7, .int r_165]) (rest := []) ⟨hx, hb, hml, hown, hts⟩ (c_X2n_covers l D ci ad kc kh ks fo kl kp dy mo n pa aE qp qm ql qv qc qe mt mv sw hv tk tn sc x7 r_165 (kv_q1_n e hRz) H.size) (cwV 2 hts gL_isSo_X2_covers rfl rfl rfl (by decide +kernel) ⟨Nat.le_of_ble_eq_true rfl, Nat.le_of_ble_eq_true rfl⟩) (kv_preV hK (kv_Pl hP) (kv_Dl hD) (r := (RX2, TX2, 9)) (q0 := 0) (k := 3) rfl rfl rfl) rfl rfl hl.1 rfl (lv_room (Nat.le_of_ble_eq_true rfl)) dL_isSo_213 ⟨Nat.le_of_ble_eq_true rfl, Nat.le_of_ble_eq_true rfl⟩) hP hD hS hA (fun r_213 u_213 H locs hw_213 hP hD hS => ?_)
              have e := kv_q1_e e hw_213
              have hP : va_P D vwCl (kv_lkw ci la ad lm lp lr lq kc kh ks fo kl kp dy mo n pa aE qp qm ql qv qc qe mt mv sw hv tk tn sc) H := kv_commP hP
              have hD : va_D A (kv_lkw ci la ad lm lp lr lq kc kh ks fo kl kp dy mo n pa aE qp qm ql qv qc qe mt mv sw hv tk tn sc) := kv_commD hD
              refine lv_iload hx hb dL_isSo_216 (lv_at hl 8 rfl) ?_
              refine lv_iload hx hb dL_isSo_218 (lv_at hl 0 rfl) ?_
              refine lv_aload_n hx hb dL_isSo_220 rfl (lv_at hl 3 rfl) ?_
              refine lv_aload hx hb dL_isSo_221 (lv_at hl 5 rfl) ?_
              have hP : va_P D vwCl ((kv_lw ci la lm lp lr lq) ++ (kv_kw ci ad kc kh ks fo kl kp dy mo n pa aE qp qm ql qv qc qe mt mv sw hv tk tn sc)) H := hP
              have hD : va_D A ((kv_lw ci la lm lp lr lq) ++ (kv_kw ci ad kc kh ks fo kl kp dy mo n pa aE qp qm ql qv qc qe mt mv sw hv tk tn sc)) := hD
              refine kv_calliF (va_runS (As := [.int x7, .int r_165, .ref (la 0), .ref (la 2)]) (rest := [.int r_213]) ⟨hx, hb, hml, hown, hts⟩ (c_L_covers l D ci la lm lp lr lq x7 r_165 (kv_q1_n e hRz) H.size) (va_cwS 4 hts gL_isSo_L_covers rfl rfl rfl (by decide +kernel) ⟨Nat.le_of_ble_eq_true rfl, Nat.le_of_ble_eq_true rfl⟩) (kv_preS hK (kv_Pl hP) (kv_Dl hD)) rfl rfl hl.1 rfl (lv_room (Nat.le_of_ble_eq_true rfl)) dL_isSo_223 ⟨Nat.le_of_ble_eq_true rfl, Nat.le_of_ble_eq_true rfl⟩) hP hD hS hA (fun r_223 u_223 H locs hw_223 hP hD hS => ?_)
              have e := kv_q1_e e hw_223
              have hP : va_P D vwCl (kv_lkw ci la ad lm lp lr lq kc kh ks fo kl kp dy mo n pa aE qp qm ql qv qc qe mt mv sw hv tk tn sc) H := hP
              have hD : va_D A (kv_lkw ci la ad lm lp lr lq kc kh ks fo kl kp dy mo n pa aE qp qm ql qv qc qe mt mv sw hv tk tn sc) := hD
              refine lv_icmp_ne (tgt := 233) hx hb dL_isSo_226 (by decide) (fun c_226 => ?_) (fun c_226 => ?_)
              · have e := e.trans (if_neg c_226)
                refine lv_iconst (v := 0) hx hb dL_isSo_233 (by decide) ?_
                exact hb_234 x7 0 lm lr lq ks mt mv sw hv tk tn sc _ _ _  hP hD hS (lv_sub hl [1, 2, 3, 4, 5, 6, 8] rfl) e
              · have e := e.trans (if_pos c_226)
                refine lv_iconst (v := 1) hx hb dL_isSo_229 (by decide) ?_
                refine lv_goto (tgt := 234) hx hb dL_isSo_230 (by decide) ?_
                exact hb_234 x7 1 lm lr lq ks mt mv sw hv tk tn sc _ _ _  hP hD hS (lv_sub hl [1, 2, 3, 4, 5, 6, 8] rfl) e
  have hb_143 : ∀ (x6 : Int32) (lm : Nat → Int32) (lr : Nat → Int32) (lq : Nat → Int32) (ks : Nat → Int32) (mt : Nat → Int32) (mv : Nat → Int32) (sw : Nat → Int32) (hv : Int32) (tk : Nat → Int32) (tn : Nat → Int32) (sc : Nat → Int32) (H : Heap) (locs : List Loc) (ls : Array Slot), va_P D vwCl (kv_lkw ci la ad lm lp lr lq kc kh ks fo kl kp dy mo n pa aE qp qm ql qv qc qe mt mv sw hv tk tn sc) H → va_D A (kv_lkw ci la ad lm lp lr lq kc kh ks fo kl kp dy mo n pa aE qp qm ql qv qc qe mt mv sw hv tk tn sc) → va_S A s.heap H locs → lv_has ls 13 [(0, .ref (ad 0)), (1, .int p1), (2, .ref (la 0)), (3, .ref (la 1)), (4, .ref (la 2)), (5, .ref (la 3)), (6, .int x6)] → Rz = pf_L_isSo_143 lp kc kh fo kl kp dy n qp qm qv qc p1  x6 lm lr lq ks mt mv sw hv tk tn sc → W p l en rmL_isSo s m args below meth c H locs 0 0 Q (F0 m 143 ls []) := by
    intro x6 lm lr lq ks mt mv sw hv tk tn sc H locs ls  hP hD hS hl e
    rw [pf_L_isSo_143] at e
    refine lv_iconst (v := 0) hx hb dL_isSo_143 (by decide) ?_
    refine lv_istore (lv' := [(7, .int 0), (0, .ref (ad 0)), (1, .int p1), (2, .ref (la 0)), (3, .ref (la 1)), (4, .ref (la 2)), (5, .ref (la 3)), (6, .int x6)]) hx hb dL_isSo_144 hl (by decide) rfl (fun ls hl => ?_)
    exact hb_146 kv_F x6 0 lm lr lq ks mt mv sw hv tk tn sc _ _ _  hP hD hS (lv_sub hl [1, 2, 3, 4, 5, 6, 7, 0] rfl) e
  have hb_32 : ∀ (n_32 : Nat), ∀ (x6 : Int32) (x7 : Int32) (lm : Nat → Int32) (lr : Nat → Int32) (lq : Nat → Int32) (ks : Nat → Int32) (mt : Nat → Int32) (mv : Nat → Int32) (sw : Nat → Int32) (hv : Int32) (tk : Nat → Int32) (tn : Nat → Int32) (sc : Nat → Int32) (H : Heap) (locs : List Loc) (ls : Array Slot), va_P D vwCl (kv_lkw ci la ad lm lp lr lq kc kh ks fo kl kp dy mo n pa aE qp qm ql qv qc qe mt mv sw hv tk tn sc) H → va_D A (kv_lkw ci la ad lm lp lr lq kc kh ks fo kl kp dy mo n pa aE qp qm ql qv qc qe mt mv sw hv tk tn sc) → va_S A s.heap H locs → lv_has ls 13 [(0, .ref (ad 0)), (1, .int p1), (2, .ref (la 0)), (3, .ref (la 1)), (4, .ref (la 2)), (5, .ref (la 3)), (6, .int x6), (7, .int x7)] → Rz = pf_L_isSo_32 lp kc kh fo kl kp dy n qp qm qv qc p1  n_32 x6 x7 lm lr lq ks mt mv sw hv tk tn sc → W p l en rmL_isSo s m args below meth c H locs 0 0 Q (F0 m 32 ls []) := by
    intro n_32
    induction n_32 with
    | zero =>
      intro x6 x7 lm lr lq ks mt mv sw hv tk tn sc H locs ls  _ _ _ _ e
      exact absurd e hRz
    | succ n_32 ih_32 =>
      have hb_135 : ∀ (x7 : Int32) (z0 : Int32) (lm : Nat → Int32) (lr : Nat → Int32) (lq : Nat → Int32) (ks : Nat → Int32) (mt : Nat → Int32) (mv : Nat → Int32) (sw : Nat → Int32) (hv : Int32) (tk : Nat → Int32) (tn : Nat → Int32) (sc : Nat → Int32) (H : Heap) (locs : List Loc) (ls : Array Slot), va_P D vwCl (kv_lkw ci la ad lm lp lr lq kc kh ks fo kl kp dy mo n pa aE qp qm ql qv qc qe mt mv sw hv tk tn sc) H → va_D A (kv_lkw ci la ad lm lp lr lq kc kh ks fo kl kp dy mo n pa aE qp qm ql qv qc qe mt mv sw hv tk tn sc) → va_S A s.heap H locs → lv_has ls 13 [(0, .ref (ad 0)), (1, .int p1), (2, .ref (la 0)), (3, .ref (la 1)), (4, .ref (la 2)), (5, .ref (la 3)), (7, .int x7)] → Rz = pf_L_isSo_135 lp kc kh fo kl kp dy n qp qm qv qc p1 (pf_L_isSo_32 lp kc kh fo kl kp dy n qp qm qv qc p1  n_32) x7 z0 lm lr lq ks mt mv sw hv tk tn sc → W p l en rmL_isSo s m args below meth c H locs 0 0 Q (F0 m 135 ls [.int z0]) := by
        intro x7 z0 lm lr lq ks mt mv sw hv tk tn sc H locs ls  hP hD hS hl e
        rw [pf_L_isSo_135] at e
        refine lv_istore (lv' := [(6, .int z0), (0, .ref (ad 0)), (1, .int p1), (2, .ref (la 0)), (3, .ref (la 1)), (4, .ref (la 2)), (5, .ref (la 3)), (7, .int x7)]) hx hb dL_isSo_135 hl (by decide) rfl (fun ls hl => ?_)
        refine lv_iinc (v := x7 + 1) (lv' := [(7, .int (x7 + 1)), (6, .int z0), (0, .ref (ad 0)), (1, .int p1), (2, .ref (la 0)), (3, .ref (la 1)), (4, .ref (la 2)), (5, .ref (la 3))]) hx hb dL_isSo_137 hl (k := 7) rfl rfl (by decide) rfl (fun ls hl => ?_)
        refine lv_goto (tgt := 32) hx hb dL_isSo_140 (by decide) ?_
        exact ih_32 z0 (x7 + 1) lm lr lq ks mt mv sw hv tk tn sc _ _ _  hP hD hS (lv_sub hl [2, 3, 4, 5, 6, 7, 1, 0] rfl) e
      have hb_127 : ∀ (x7 : Int32) (z0 : Int32) (z1 : Int32) (lm : Nat → Int32) (lr : Nat → Int32) (lq : Nat → Int32) (ks : Nat → Int32) (mt : Nat → Int32) (mv : Nat → Int32) (sw : Nat → Int32) (hv : Int32) (tk : Nat → Int32) (tn : Nat → Int32) (sc : Nat → Int32) (H : Heap) (locs : List Loc) (ls : Array Slot), va_P D vwCl (kv_lkw ci la ad lm lp lr lq kc kh ks fo kl kp dy mo n pa aE qp qm ql qv qc qe mt mv sw hv tk tn sc) H → va_D A (kv_lkw ci la ad lm lp lr lq kc kh ks fo kl kp dy mo n pa aE qp qm ql qv qc qe mt mv sw hv tk tn sc) → va_S A s.heap H locs → lv_has ls 13 [(0, .ref (ad 0)), (1, .int p1), (2, .ref (la 0)), (3, .ref (la 1)), (4, .ref (la 2)), (5, .ref (la 3)), (7, .int x7)] → Rz = pf_L_isSo_127 lp kc kh fo kl kp dy n qp qm qv qc p1 (pf_L_isSo_32 lp kc kh fo kl kp dy n qp qm qv qc p1  n_32) x7 z0 z1 lm lr lq ks mt mv sw hv tk tn sc → W p l en rmL_isSo s m args below meth c H locs 0 0 Q (F0 m 127 ls [.int z1, .int z0]) := by
        intro x7 z0 z1 lm lr lq ks mt mv sw hv tk tn sc H locs ls  hP hD hS hl e
        rw [pf_L_isSo_127] at e
        refine lv_icmp_ne (tgt := 134) hx hb dL_isSo_127 (by decide) (fun c_127 => ?_) (fun c_127 => ?_)
        · have e := e.trans (if_neg c_127)
          refine lv_iconst (v := 0) hx hb dL_isSo_134 (by decide) ?_
          exact hb_135 x7 0 lm lr lq ks mt mv sw hv tk tn sc _ _ _  hP hD hS (lv_sub hl [0, 1, 2, 3, 4, 5, 6] rfl) e
        · have e := e.trans (if_pos c_127)
          refine lv_iconst (v := 1) hx hb dL_isSo_130 (by decide) ?_
          refine lv_goto (tgt := 135) hx hb dL_isSo_131 (by decide) ?_
          exact hb_135 x7 1 lm lr lq ks mt mv sw hv tk tn sc _ _ _  hP hD hS (lv_sub hl [0, 1, 2, 3, 4, 5, 6] rfl) e
      have hb_92 : ∀ (x7 : Int32) (z0 : Int32) (z1 : Int32) (lm : Nat → Int32) (lr : Nat → Int32) (lq : Nat → Int32) (ks : Nat → Int32) (mt : Nat → Int32) (mv : Nat → Int32) (sw : Nat → Int32) (hv : Int32) (tk : Nat → Int32) (tn : Nat → Int32) (sc : Nat → Int32) (H : Heap) (locs : List Loc) (ls : Array Slot), va_P D vwCl (kv_lkw ci la ad lm lp lr lq kc kh ks fo kl kp dy mo n pa aE qp qm ql qv qc qe mt mv sw hv tk tn sc) H → va_D A (kv_lkw ci la ad lm lp lr lq kc kh ks fo kl kp dy mo n pa aE qp qm ql qv qc qe mt mv sw hv tk tn sc) → va_S A s.heap H locs → lv_has ls 13 [(0, .ref (ad 0)), (1, .int p1), (2, .ref (la 0)), (3, .ref (la 1)), (4, .ref (la 2)), (5, .ref (la 3)), (7, .int x7)] → Rz = pf_L_isSo_92 lp kc kh fo kl kp dy n qp qm qv qc p1 (pf_L_isSo_32 lp kc kh fo kl kp dy n qp qm qv qc p1  n_32) x7 z0 z1 lm lr lq ks mt mv sw hv tk tn sc → W p l en rmL_isSo s m args below meth c H locs 0 0 Q (F0 m 92 ls [.int z1, .int z0]) := by
        intro x7 z0 z1 lm lr lq ks mt mv sw hv tk tn sc H locs ls  hP hD hS hl e
        rw [pf_L_isSo_92] at e
        refine lv_icmp_ne (tgt := 134) hx hb dL_isSo_92 (by decide) (fun c_92 => ?_) (fun c_92 => ?_)
        · have e := e.trans (if_neg c_92)
          refine lv_iconst (v := 0) hx hb dL_isSo_134 (by decide) ?_
          exact hb_135 x7 0 lm lr lq ks mt mv sw hv tk tn sc _ _ _  hP hD hS (lv_sub hl [0, 1, 2, 3, 4, 5, 6] rfl) e
        · have e := e.trans (if_pos c_92)
          refine lv_aload_n hx hb dL_isSo_95 rfl (lv_at hl 0 rfl) ?_
          refine lv_iload hx hb dL_isSo_96 (lv_at hl 6 rfl) ?_
          refine lv_iconst (v := 1) hx hb dL_isSo_98 (by decide) ?_
          have hP : va_P D vwCl ((kv_kw ci ad kc kh ks fo kl kp dy mo n pa aE qp qm ql qv qc qe mt mv sw hv tk tn sc) ++ (kv_lw ci la lm lp lr lq)) H := kv_commP hP
          have hD : va_D A ((kv_kw ci ad kc kh ks fo kl kp dy mo n pa aE qp qm ql qv qc qe mt mv sw hv tk tn sc) ++ (kv_lw ci la lm lp lr lq)) := kv_commD hD
          refine kv_calliF (va_runV (As := [.int x7, .int 1]) (rest := []) ⟨hx, hb, hml, hown, hts⟩ (c_X2n_weight l D ci ad kc kh ks fo kl kp dy mo n pa aE qp qm ql qv qc qe mt mv sw hv tk tn sc x7 1 (kv_q1_n e hRz) H.size) (cwV 2 hts gL_isSo_X2_weight rfl rfl rfl (by decide +kernel) ⟨Nat.le_of_ble_eq_true rfl, Nat.le_of_ble_eq_true rfl⟩) (kv_preV hK (kv_Pl hP) (kv_Dl hD) (r := (RX2, TX2, 9)) (q0 := 0) (k := 3) rfl rfl rfl) rfl rfl hl.1 rfl (lv_room (Nat.le_of_ble_eq_true rfl)) dL_isSo_99 ⟨Nat.le_of_ble_eq_true rfl, Nat.le_of_ble_eq_true rfl⟩) hP hD hS hA (fun r_99 u_99 H locs hw_99 hP hD hS => ?_)
          have e := kv_q1_e e hw_99
          have hP : va_P D vwCl (kv_lkw ci la ad lm lp lr lq kc kh ks fo kl kp dy mo n pa aE qp qm ql qv qc qe mt mv sw hv tk tn sc) H := kv_commP hP
          have hD : va_D A (kv_lkw ci la ad lm lp lr lq kc kh ks fo kl kp dy mo n pa aE qp qm ql qv qc qe mt mv sw hv tk tn sc) := kv_commD hD
          refine lv_aload_n hx hb dL_isSo_102 rfl (lv_at hl 2 rfl) ?_
          refine lv_iconst (v := 4) hx hb dL_isSo_103 (by decide) ?_
          refine lv_iload hx hb dL_isSo_104 (lv_at hl 6 rfl) ?_
          refine lv_imul hx hb dL_isSo_106 ?_
          refine lv_iconst (v := 3) hx hb dL_isSo_107 (by decide) ?_
          refine lv_iadd hx hb dL_isSo_108 ?_
          obtain ⟨hi_109, e⟩ := kv_G_e e hRz
          refine kv_iald hx hb hK hP 0 0 hi_109 dL_isSo_109 rfl rfl (fun y_109 ey_109 => ?_)
          have e := kv_T_e e ey_109
          refine lv_if_le (tgt := 126) hx hb dL_isSo_110 (by decide) (fun c_110 => ?_) (fun c_110 => ?_)
          · have e := e.trans (if_pos c_110)
            refine lv_iconst (v := 0) hx hb dL_isSo_126 (by decide) ?_
            exact hb_127 x7 r_99 0 lm lr lq ks mt mv sw hv tk tn sc _ _ _  hP hD hS (lv_sub hl [0, 1, 2, 3, 4, 5, 6] rfl) e
          · have e := e.trans (if_neg c_110)
            refine lv_aload_n hx hb dL_isSo_113 rfl (lv_at hl 2 rfl) ?_
            refine lv_iconst (v := 4) hx hb dL_isSo_114 (by decide) ?_
            refine lv_iload hx hb dL_isSo_115 (lv_at hl 6 rfl) ?_
            refine lv_imul hx hb dL_isSo_117 ?_
            obtain ⟨hi_118, e⟩ := kv_G_e e hRz
            refine kv_iald hx hb hK hP 0 0 hi_118 dL_isSo_118 rfl rfl (fun y_118 ey_118 => ?_)
            have e := kv_T_e e ey_118
            refine lv_aload_n hx hb dL_isSo_119 rfl (lv_at hl 3 rfl) ?_
            refine lv_iconst (v := 3) hx hb dL_isSo_120 (by decide) ?_
            obtain ⟨hi_121, e⟩ := kv_G_e e hRz
            refine kv_iald hx hb hK hP 1 0 hi_121 dL_isSo_121 rfl rfl (fun y_121 ey_121 => ?_)
            have e := kv_T_e e ey_121
            refine lv_imul hx hb dL_isSo_122 ?_
            refine lv_goto (tgt := 127) hx hb dL_isSo_123 (by decide) ?_
            exact hb_127 x7 r_99 (y_118 * y_121) lm lr lq ks mt mv sw hv tk tn sc _ _ _  hP hD hS (lv_sub hl [0, 1, 2, 3, 4, 5, 6] rfl) e
      intro x6 x7 lm lr lq ks mt mv sw hv tk tn sc H locs ls  hP hD hS hl e
      rw [pf_L_isSo_32, pf_L_isSo_32b] at e
      refine lv_iload hx hb dL_isSo_32 (lv_at hl 7 rfl) ?_
      refine lv_iconst (v := 5) hx hb dL_isSo_34 (by decide) ?_
      refine lv_icmp_ge (tgt := 143) hx hb dL_isSo_35 (by decide) (fun c_35 => ?_) (fun c_35 => ?_)
      · have e := e.trans (if_pos c_35)
        exact hb_143 x6 lm lr lq ks mt mv sw hv tk tn sc _ _ _  hP hD hS (lv_sub hl [0, 1, 2, 3, 4, 5, 6] rfl) e
      · have e := e.trans (if_neg c_35)
        refine lv_iload hx hb dL_isSo_38 (lv_at hl 6 rfl) ?_
        refine lv_if_eq (tgt := 143) hx hb dL_isSo_40 (by decide) (fun c_40 => ?_) (fun c_40 => ?_)
        · have e := e.trans (if_pos c_40)
          exact hb_143 x6 lm lr lq ks mt mv sw hv tk tn sc _ _ _  hP hD hS (lv_sub hl [0, 1, 2, 3, 4, 5, 6] rfl) e
        · have e := e.trans (if_neg c_40)
          refine lv_aload_n hx hb dL_isSo_43 rfl (lv_at hl 0 rfl) ?_
          refine lv_iload hx hb dL_isSo_44 (lv_at hl 7 rfl) ?_
          have hP : va_P D vwCl ((kv_kw ci ad kc kh ks fo kl kp dy mo n pa aE qp qm ql qv qc qe mt mv sw hv tk tn sc) ++ (kv_lw ci la lm lp lr lq)) H := kv_commP hP
          have hD : va_D A ((kv_kw ci ad kc kh ks fo kl kp dy mo n pa aE qp qm ql qv qc qe mt mv sw hv tk tn sc) ++ (kv_lw ci la lm lp lr lq)) := kv_commD hD
          refine kv_calliF (va_runV (As := [.int x7]) (rest := []) ⟨hx, hb, hml, hown, hts⟩ (c_X2n_hostOf l D ci ad kc kh ks fo kl kp dy mo n pa aE qp qm ql qv qc qe mt mv sw hv tk tn sc x7 (kv_q1_n e hRz) H.size) (cwV 1 hts gL_isSo_X2_hostOf rfl rfl rfl (by decide +kernel) ⟨Nat.le_of_ble_eq_true rfl, Nat.le_of_ble_eq_true rfl⟩) (kv_preV hK (kv_Pl hP) (kv_Dl hD) (r := (RX2, TX2, 9)) (q0 := 0) (k := 3) rfl rfl rfl) rfl rfl hl.1 rfl (lv_room (Nat.le_of_ble_eq_true rfl)) dL_isSo_46 ⟨Nat.le_of_ble_eq_true rfl, Nat.le_of_ble_eq_true rfl⟩) hP hD hS hA (fun r_46 u_46 H locs hw_46 hP hD hS => ?_)
          have e := kv_q1_e e hw_46
          have hP : va_P D vwCl (kv_lkw ci la ad lm lp lr lq kc kh ks fo kl kp dy mo n pa aE qp qm ql qv qc qe mt mv sw hv tk tn sc) H := kv_commP hP
          have hD : va_D A (kv_lkw ci la ad lm lp lr lq kc kh ks fo kl kp dy mo n pa aE qp qm ql qv qc qe mt mv sw hv tk tn sc) := kv_commD hD
          refine lv_aload_n hx hb dL_isSo_49 rfl (lv_at hl 2 rfl) ?_
          refine lv_iconst (v := 4) hx hb dL_isSo_50 (by decide) ?_
          refine lv_iload hx hb dL_isSo_51 (lv_at hl 7 rfl) ?_
          refine lv_imul hx hb dL_isSo_53 ?_
          refine lv_iconst (v := 1) hx hb dL_isSo_54 (by decide) ?_
          refine lv_iadd hx hb dL_isSo_55 ?_
          obtain ⟨hi_56, e⟩ := kv_G_e e hRz
          refine kv_iald hx hb hK hP 0 0 hi_56 dL_isSo_56 rfl rfl (fun y_56 ey_56 => ?_)
          have e := kv_T_e e ey_56
          refine lv_icmp_ne (tgt := 134) hx hb dL_isSo_57 (by decide) (fun c_57 => ?_) (fun c_57 => ?_)
          · have e := e.trans (if_neg c_57)
            refine lv_iconst (v := 0) hx hb dL_isSo_134 (by decide) ?_
            exact hb_135 x7 0 lm lr lq ks mt mv sw hv tk tn sc _ _ _  hP hD hS (lv_sub hl [0, 1, 2, 3, 4, 5, 7] rfl) e
          · have e := e.trans (if_pos c_57)
            refine lv_aload_n hx hb dL_isSo_60 rfl (lv_at hl 0 rfl) ?_
            refine lv_iload hx hb dL_isSo_61 (lv_at hl 7 rfl) ?_
            refine lv_iconst (v := 0) hx hb dL_isSo_63 (by decide) ?_
            have hP : va_P D vwCl ((kv_kw ci ad kc kh ks fo kl kp dy mo n pa aE qp qm ql qv qc qe mt mv sw hv tk tn sc) ++ (kv_lw ci la lm lp lr lq)) H := kv_commP hP
            have hD : va_D A ((kv_kw ci ad kc kh ks fo kl kp dy mo n pa aE qp qm ql qv qc qe mt mv sw hv tk tn sc) ++ (kv_lw ci la lm lp lr lq)) := kv_commD hD
            refine kv_calliF (va_runV (As := [.int x7, .int 0]) (rest := []) ⟨hx, hb, hml, hown, hts⟩ (c_X2n_weight l D ci ad kc kh ks fo kl kp dy mo n pa aE qp qm ql qv qc qe mt mv sw hv tk tn sc x7 0 (kv_q1_n e hRz) H.size) (cwV 2 hts gL_isSo_X2_weight rfl rfl rfl (by decide +kernel) ⟨Nat.le_of_ble_eq_true rfl, Nat.le_of_ble_eq_true rfl⟩) (kv_preV hK (kv_Pl hP) (kv_Dl hD) (r := (RX2, TX2, 9)) (q0 := 0) (k := 3) rfl rfl rfl) rfl rfl hl.1 rfl (lv_room (Nat.le_of_ble_eq_true rfl)) dL_isSo_64 ⟨Nat.le_of_ble_eq_true rfl, Nat.le_of_ble_eq_true rfl⟩) hP hD hS hA (fun r_64 u_64 H locs hw_64 hP hD hS => ?_)
            have e := kv_q1_e e hw_64
            have hP : va_P D vwCl (kv_lkw ci la ad lm lp lr lq kc kh ks fo kl kp dy mo n pa aE qp qm ql qv qc qe mt mv sw hv tk tn sc) H := kv_commP hP
            have hD : va_D A (kv_lkw ci la ad lm lp lr lq kc kh ks fo kl kp dy mo n pa aE qp qm ql qv qc qe mt mv sw hv tk tn sc) := kv_commD hD
            refine lv_aload_n hx hb dL_isSo_67 rfl (lv_at hl 2 rfl) ?_
            refine lv_iconst (v := 4) hx hb dL_isSo_68 (by decide) ?_
            refine lv_iload hx hb dL_isSo_69 (lv_at hl 7 rfl) ?_
            refine lv_imul hx hb dL_isSo_71 ?_
            refine lv_iconst (v := 2) hx hb dL_isSo_72 (by decide) ?_
            refine lv_iadd hx hb dL_isSo_73 ?_
            obtain ⟨hi_74, e⟩ := kv_G_e e hRz
            refine kv_iald hx hb hK hP 0 0 hi_74 dL_isSo_74 rfl rfl (fun y_74 ey_74 => ?_)
            have e := kv_T_e e ey_74
            refine lv_if_le (tgt := 91) hx hb dL_isSo_75 (by decide) (fun c_75 => ?_) (fun c_75 => ?_)
            · have e := e.trans (if_pos c_75)
              refine lv_iconst (v := 0) hx hb dL_isSo_91 (by decide) ?_
              exact hb_92 x7 r_64 0 lm lr lq ks mt mv sw hv tk tn sc _ _ _  hP hD hS (lv_sub hl [0, 1, 2, 3, 4, 5, 7] rfl) e
            · have e := e.trans (if_neg c_75)
              refine lv_aload_n hx hb dL_isSo_78 rfl (lv_at hl 2 rfl) ?_
              refine lv_iconst (v := 4) hx hb dL_isSo_79 (by decide) ?_
              refine lv_iload hx hb dL_isSo_80 (lv_at hl 7 rfl) ?_
              refine lv_imul hx hb dL_isSo_82 ?_
              obtain ⟨hi_83, e⟩ := kv_G_e e hRz
              refine kv_iald hx hb hK hP 0 0 hi_83 dL_isSo_83 rfl rfl (fun y_83 ey_83 => ?_)
              have e := kv_T_e e ey_83
              refine lv_aload_n hx hb dL_isSo_84 rfl (lv_at hl 3 rfl) ?_
              refine lv_iconst (v := 1) hx hb dL_isSo_85 (by decide) ?_
              obtain ⟨hi_86, e⟩ := kv_G_e e hRz
              refine kv_iald hx hb hK hP 1 0 hi_86 dL_isSo_86 rfl rfl (fun y_86 ey_86 => ?_)
              have e := kv_T_e e ey_86
              refine lv_imul hx hb dL_isSo_87 ?_
              refine lv_goto (tgt := 92) hx hb dL_isSo_88 (by decide) ?_
              exact hb_92 x7 r_64 (y_83 * y_86) lm lr lq ks mt mv sw hv tk tn sc _ _ _  hP hD hS (lv_sub hl [0, 1, 2, 3, 4, 5, 7] rfl) e
  have hb_27 : ∀ (z0 : Int32) (lm : Nat → Int32) (lr : Nat → Int32) (lq : Nat → Int32) (ks : Nat → Int32) (mt : Nat → Int32) (mv : Nat → Int32) (sw : Nat → Int32) (hv : Int32) (tk : Nat → Int32) (tn : Nat → Int32) (sc : Nat → Int32) (H : Heap) (locs : List Loc) (ls : Array Slot), va_P D vwCl (kv_lkw ci la ad lm lp lr lq kc kh ks fo kl kp dy mo n pa aE qp qm ql qv qc qe mt mv sw hv tk tn sc) H → va_D A (kv_lkw ci la ad lm lp lr lq kc kh ks fo kl kp dy mo n pa aE qp qm ql qv qc qe mt mv sw hv tk tn sc) → va_S A s.heap H locs → lv_has ls 13 [(0, .ref (ad 0)), (1, .int p1), (2, .ref (la 0)), (3, .ref (la 1)), (4, .ref (la 2)), (5, .ref (la 3))] → Rz = pf_L_isSo_27 lp kc kh fo kl kp dy n qp qm qv qc p1  z0 lm lr lq ks mt mv sw hv tk tn sc → W p l en rmL_isSo s m args below meth c H locs 0 0 Q (F0 m 27 ls [.int z0]) := by
    intro z0 lm lr lq ks mt mv sw hv tk tn sc H locs ls  hP hD hS hl e
    rw [pf_L_isSo_27] at e
    refine lv_istore (lv' := [(6, .int z0), (0, .ref (ad 0)), (1, .int p1), (2, .ref (la 0)), (3, .ref (la 1)), (4, .ref (la 2)), (5, .ref (la 3))]) hx hb dL_isSo_27 hl (by decide) rfl (fun ls hl => ?_)
    refine lv_iconst (v := 0) hx hb dL_isSo_29 (by decide) ?_
    refine lv_istore (lv' := [(7, .int 0), (6, .int z0), (0, .ref (ad 0)), (1, .int p1), (2, .ref (la 0)), (3, .ref (la 1)), (4, .ref (la 2)), (5, .ref (la 3))]) hx hb dL_isSo_30 hl (by decide) rfl (fun ls hl => ?_)
    exact hb_32 kv_F z0 0 lm lr lq ks mt mv sw hv tk tn sc _ _ _  hP hD hS (lv_sub hl [2, 3, 4, 5, 6, 7, 1, 0] rfl) e
  refine lv_aload_n hx hb dL_isSo_0 rfl (lv_at hl 0 rfl) ?_
  have hP : va_P D vwCl ((kv_kw ci ad kc kh ks fo kl kp dy mo n pa aE qp qm ql qv qc qe mt mv sw hv tk tn sc) ++ (kv_lw ci la lm lp lr lq)) s.heap := kv_commP hP
  have hD : va_D A ((kv_kw ci ad kc kh ks fo kl kp dy mo n pa aE qp qm ql qv qc qe mt mv sw hv tk tn sc) ++ (kv_lw ci la lm lp lr lq)) := kv_commD hD
  refine kv_calliF (va_runV (As := []) (rest := []) ⟨hx, hb, hml, hown, hts⟩ (c_X2_today l D ci ad kc kh ks fo kl kp dy mo n pa aE qp qm ql qv qc qe mt mv sw hv tk tn sc  (kv_q1_n e hRz) s.heap.size) (cwV 0 hts gL_isSo_X2_today rfl rfl rfl (by decide +kernel) ⟨Nat.le_of_ble_eq_true rfl, Nat.le_of_ble_eq_true rfl⟩) (kv_preV hK (kv_Pl hP) (kv_Dl hD) (r := (RX2, TX2, 9)) (q0 := 0) (k := 3) rfl rfl rfl) rfl rfl hl.1 rfl (lv_room (Nat.le_of_ble_eq_true rfl)) dL_isSo_1 ⟨Nat.le_of_ble_eq_true rfl, Nat.le_of_ble_eq_true rfl⟩) hP hD hS hA (fun r_1 u_1 H locs hw_1 hP hD hS => ?_)
  have e := kv_q1_e e hw_1
  have hP : va_P D vwCl (kv_lkw ci la ad lm lp lr lq kc kh ks fo kl kp dy mo n pa aE qp qm ql qv qc qe mt mv sw hv tk tn sc) H := kv_commP hP
  have hD : va_D A (kv_lkw ci la ad lm lp lr lq kc kh ks fo kl kp dy mo n pa aE qp qm ql qv qc qe mt mv sw hv tk tn sc) := kv_commD hD
  refine lv_aload hx hb dL_isSo_4 (lv_at hl 5 rfl) ?_
  refine lv_iconst (v := 0) hx hb dL_isSo_6 (by decide) ?_
  obtain ⟨hi_7, e⟩ := kv_G_e e hRz
  refine kv_iald hx hb hK hP 3 0 hi_7 dL_isSo_7 rfl rfl (fun y_7 ey_7 => ?_)
  have e := kv_T_e e ey_7
  refine lv_icmp_ne (tgt := 26) hx hb dL_isSo_8 (by decide) (fun c_8 => ?_) (fun c_8 => ?_)
  · have e := e.trans (if_neg c_8)
    refine lv_iconst (v := 0) hx hb dL_isSo_26 (by decide) ?_
    exact hb_27 0 lm lr lq ks mt mv sw hv tk tn sc _ _ _  hP hD hS (lv_sub hl [0, 1, 2, 3, 4, 5] rfl) e
  · have e := e.trans (if_pos c_8)
    refine lv_aload_n hx hb dL_isSo_11 rfl (lv_at hl 0 rfl) ?_
    have hP : va_P D vwCl ((kv_kw ci ad kc kh ks fo kl kp dy mo n pa aE qp qm ql qv qc qe mt mv sw hv tk tn sc) ++ (kv_lw ci la lm lp lr lq)) H := kv_commP hP
    have hD : va_D A ((kv_kw ci ad kc kh ks fo kl kp dy mo n pa aE qp qm ql qv qc qe mt mv sw hv tk tn sc) ++ (kv_lw ci la lm lp lr lq)) := kv_commD hD
    refine kv_calliF (va_runV (As := []) (rest := []) ⟨hx, hb, hml, hown, hts⟩ (c_X2_rights l D ci ad kc kh ks fo kl kp dy mo n pa aE qp qm ql qv qc qe mt mv sw hv tk tn sc  (kv_q1_n e hRz) H.size) (cwV 0 hts gL_isSo_X2_rights rfl rfl rfl (by decide +kernel) ⟨Nat.le_of_ble_eq_true rfl, Nat.le_of_ble_eq_true rfl⟩) (kv_preV hK (kv_Pl hP) (kv_Dl hD) (r := (RX2, TX2, 9)) (q0 := 0) (k := 3) rfl rfl rfl) rfl rfl hl.1 rfl (lv_room (Nat.le_of_ble_eq_true rfl)) dL_isSo_12 ⟨Nat.le_of_ble_eq_true rfl, Nat.le_of_ble_eq_true rfl⟩) hP hD hS hA (fun r_12 u_12 H locs hw_12 hP hD hS => ?_)
    have e := kv_q1_e e hw_12
    have hP : va_P D vwCl (kv_lkw ci la ad lm lp lr lq kc kh ks fo kl kp dy mo n pa aE qp qm ql qv qc qe mt mv sw hv tk tn sc) H := kv_commP hP
    have hD : va_D A (kv_lkw ci la ad lm lp lr lq kc kh ks fo kl kp dy mo n pa aE qp qm ql qv qc qe mt mv sw hv tk tn sc) := kv_commD hD
    refine lv_aload hx hb dL_isSo_15 (lv_at hl 5 rfl) ?_
    refine lv_iconst (v := 1) hx hb dL_isSo_17 (by decide) ?_
    obtain ⟨hi_18, e⟩ := kv_G_e e hRz
    refine kv_iald hx hb hK hP 3 0 hi_18 dL_isSo_18 rfl rfl (fun y_18 ey_18 => ?_)
    have e := kv_T_e e ey_18
    refine lv_icmp_ne (tgt := 26) hx hb dL_isSo_19 (by decide) (fun c_19 => ?_) (fun c_19 => ?_)
    · have e := e.trans (if_neg c_19)
      refine lv_iconst (v := 0) hx hb dL_isSo_26 (by decide) ?_
      exact hb_27 0 lm lr lq ks mt mv sw hv tk tn sc _ _ _  hP hD hS (lv_sub hl [0, 1, 2, 3, 4, 5] rfl) e
    · have e := e.trans (if_pos c_19)
      refine lv_iconst (v := 1) hx hb dL_isSo_22 (by decide) ?_
      refine lv_goto (tgt := 27) hx hb dL_isSo_23 (by decide) ?_
      exact hb_27 1 lm lr lq ks mt mv sw hv tk tn sc _ _ _  hP hD hS (lv_sub hl [0, 1, 2, 3, 4, 5] rfl) e
