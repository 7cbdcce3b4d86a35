def pf_L_machines_46 (lp : Nat → Int32) (kl : Nat → Int32) (p1 : Int32) (p2 : Int32)  (x5 : Int32) (x6 : Int32) (z1 : Int32) (z2 : Int32) (z3 : Int32) (z4 : Int32) (lm : Nat → Int32) (kc : Nat → Int32) (kh : Nat → Int32) (fo : Nat → Nat → Int32) : Option (Int32 × (Nat → Int32) × (Nat → Int32) × (Nat → Int32) × (Nat → Nat → Int32)) :=
  kv_q1 (pf_L_low z3 z4) (fun r_46 => kv_G z1 20 (kv_T (upd lm z1.toNatClampNeg (z2 + r_46)) (fun g_50 => kv_G (4 * x5) 20 (kv_T (g_50 (4 * x5).toNatClampNeg) (fun y_59 => kv_q2 (pf_X2n_setCores x5 y_59 kc) (fun r_60 u_60 => if r_60 = x6 then some (1, g_50, u_60, kh, fo) else some (0, g_50, u_60, kh, fo)))))))
def pf_L_machines_154 (lp : Nat → Int32) (kl : Nat → Int32) (p1 : Int32) (p2 : Int32)  (z0 : Int32) (z1 : Int32) (lm : Nat → Int32) (kc : Nat → Int32) (kh : Nat → Int32) (fo : Nat → Nat → Int32) : Option (Int32 × (Nat → Int32) × (Nat → Int32) × (Nat → Int32) × (Nat → Nat → Int32)) :=
  if z0 = z1 then some (1, lm, kc, kh, fo) else some (0, lm, kc, kh, fo)
def pf_L_machines_130 (lp : Nat → Int32) (kl : Nat → Int32) (p1 : Int32) (p2 : Int32)  (x5 : Int32) (x6 : Int32) (x7 : Int32) (x8 : Int32) (z1 : Int32) (z2 : Int32) (lm : Nat → Int32) (kc : Nat → Int32) (kh : Nat → Int32) (fo : Nat → Nat → Int32) : Option (Int32 × (Nat → Int32) × (Nat → Int32) × (Nat → Int32) × (Nat → Nat → Int32)) :=
  kv_G z1 20 (kv_T (upd lm z1.toNatClampNeg z2) (fun g_130 => kv_q2 (pf_L_calls_0 x5 x6 0 0 kh) (fun r_139 u_139 => if 0 ≤ x7 then pf_L_machines_154 lp kl p1 p2 r_139 x8 g_130 kc u_139 fo else pf_L_machines_154 lp kl p1 p2 r_139 x7 g_130 kc u_139 fo)))
def pf_L_machines (lp : Nat → Int32) (kl : Nat → Int32) (p1 : Int32) (p2 : Int32) (lm : Nat → Int32) (kc : Nat → Int32) (kh : Nat → Int32) (fo : Nat → Nat → Int32) : Option (Int32 × (Nat → Int32) × (Nat → Int32) × (Nat → Int32) × (Nat → Nat → Int32)) :=
  kv_q1 (pf_L_low p2 5) (fun r_2 => if p1 = 0 then kv_G (4 * r_2) 20 (kv_T (lm (4 * r_2).toNatClampNeg) (fun y_16 => kv_q1 (pf_L_low (p2 >>> (13 &&& 31)) 3) (fun r_33 => if r_33 = 0 then pf_L_machines_46 lp kl p1 p2 r_2 y_16 (4 * r_2) 1 (p2 >>> (3 &&& 31)) 64 lm kc kh fo else pf_L_machines_46 lp kl p1 p2 r_2 y_16 (4 * r_2) 1 (p2 >>> (3 &&& 31)) 10 lm kc kh fo))) else if p1 = 1 then kv_q1 (pf_L_low (p2 >>> (3 &&& 31)) 6) (fun r_84 => kv_T (r_84 - 1) (fun y_89 => kv_q1 (pf_L_refuses lm r_2 y_89) (fun r_96 => kv_G ((4 * r_2) + 1) 20 (kv_T (lm ((4 * r_2) + 1).toNatClampNeg) (fun y_108 => if 0 ≤ r_96 then pf_L_machines_130 lp kl p1 p2 r_2 y_89 r_96 y_108 ((4 * r_2) + 1) y_89 lm kc kh fo else pf_L_machines_130 lp kl p1 p2 r_2 y_89 r_96 y_108 ((4 * r_2) + 1) y_108 lm kc kh fo))))) else kv_q1 (pf_L_low (p2 >>> (3 &&& 31)) 2) (fun r_167 => kv_G (((4 * r_2) + 2) + r_167) 20 (kv_T (lm (((4 * r_2) + 2) + r_167).toNatClampNeg) (fun y_182 => kv_G (2 * r_167) 4 (kv_T (lp (2 * r_167).toNatClampNeg) (fun y_194 => kv_q1 (pf_L_low (p2 >>> (5 &&& 31)) (y_194 + 1)) (fun r_197 => kv_G (((4 * r_2) + 2) + r_167) 20 (kv_T (upd lm (((4 * r_2) + 2) + r_167).toNatClampNeg r_197) (fun g_214 => kv_q2 (pf_X2n_find kl r_2 r_167 r_197 fo) (fun r_222 u_222 => if r_222 = y_182 then some (1, g_214, kc, kh, u_222) else some (0, g_214, kc, kh, u_222)))))))))))
abbrev rmL_machines : Room := { frames := 10, cells := 3, slots := 18, locals := 173 }
set_option maxHeartbeats 8000000 in
set_option maxRecDepth 100000 in
theorem c_L_machines (l : Launch) (hl9 : l.stackTraces = false) (D : va_G) (ci la ad : Nat → Nat) (aS : Nat) (lm : Nat → Int32) (lp : Nat → Int32) (lr : Nat → Int32) (lq : Nat → Int32) (kc : Nat → Int32) (kh : Nat → Int32) (ks : Nat → Int32) (fo : Nat → Nat → Int32) (kl : Nat → Int32) (kp : Nat → Int32) (dy : Int32) (mo : Int32) (n : Nat) (pa : Nat → Nat) (aE : Nat) (qp : Nat → Int32) (qm : Nat → Int32) (ql : Nat → Int32) (qv : Nat → Int32) (qc : Nat → Int32) (qe : Nat → Int32) (mt : Nat → Int32) (mv : Nat → Int32) (sw : Nat → Int32) (hv : Int32) (tk : Nat → Int32) (tn : Nat → Int32) (sc : Nat → Int32) (p1 : Int32) (p2 : Int32) (hRn : pf_L_machines lp kl p1 p2 lm kc kh fo ≠ none) (sz : Nat) : Met l yL_machines wsL_machines rmL_machines (va_Pc [.ref (ad 0), .int p1, .int p2, .ref (la 0), .ref (la 1)] (kv_preW D ci aS (kv_lkw ci la ad lm lp lr lq kc kh ks fo kl kp dy mo n pa aE qp qm ql qv qc qe mt mv sw hv tk tn sc) sz)) (va_Qi (fun (r : Int32) (u : (Nat → Int32) × (Nat → Int32) × (Nat → Int32) × (Nat → Nat → Int32)) => pf_L_machines lp kl p1 p2 lm kc kh fo = some (r, u.1, u.2.1, u.2.2.1, u.2.2.2)) (fun u t => kv_post D (kv_lkw ci la ad lm lp lr lq kc kh ks fo kl kp dy mo n pa aE qp qm ql qv qc qe mt mv sw hv tk tn sc) sz (kv_lkw ci la ad u.1 lp lr lq u.2.1 u.2.2.1 ks u.2.2.2 kl kp dy mo n pa aE qp qm ql qv qc qe mt mv sw hv tk tn sc) t) (va_A (kv_lkw ci la ad lm lp lr lq kc kh ks fo kl kp dy mo n pa aE qp qm ql qv qc qe mt mv sw hv tk tn sc) sz)) 3 18 (va_A (kv_lkw ci la ad lm lp lr lq kc kh ks fo kl kp dy mo n pa aE qp qm ql qv qc qe mt mv sw hv tk tn sc) sz) := by
  refine Met.ofW (cc := cL_machines) (maxL := 9) (ret := (some .boolean)) (by decide) rfl ?_
  intro p en s m args below meth c s₁ B hml hv
  obtain ⟨hv0, ⟨⟨⟨hsz, hP, hK, hD0⟩, hT⟩, hT2⟩, hN⟩ := hv
  have hx := B.exec
  have hb := B.bytes
  have hr := B.returns
  have hts := atoms_spec (ws := wsL_machines) B.pre
  have hown : s.vm.findClass RL = some m.cls := findClass_of_methodNamed B.named
  have hlocks := B.notSynchronized
  subst hsz
  have hD := hD0.self (sz := s.heap.size)
  generalize hAe : va_A (kv_lkw ci la ad lm lp lr lq kc kh ks fo kl kp dy mo n pa aE qp qm ql qv qc qe mt mv sw hv tk tn sc) s.heap.size = A at hD hT hT2 ⊢
  have hA : ∀ q : Nat, s.heap.size ≤ q → A q := fun q h => by rw [← hAe]; exact Or.inr h
  have hS : va_S A s.heap s.heap [] := va_S.rf
  have hP : va_P D vwCl (kv_lkw ci la ad lm lp lr lq kc kh ks fo kl kp dy mo n pa aE qp qm ql qv qc qe mt mv sw hv tk tn sc) s.heap := hP
  generalize hRd : pf_L_machines lp kl p1 p2 lm kc kh fo = Rz at hRn
  have hRz := hRn
  refine kv_Q (fun Q hQ => ?_)
  refine W.eq (show entryFrame m args 9 = _ from by rw [hv0, lg_entry_eq]) ?_
  have hl := lv_entry ([.ref (ad 0), .int p1, .int p2, .ref (la 0), .ref (la 1)]) (n := 9) (Nat.le_of_ble_eq_true rfl)
  generalize (lg_sl ([.ref (ad 0), .int p1, .int p2, .ref (la 0), .ref (la 1)]) ++ List.replicate (9 - (lg_sl ([.ref (ad 0), .int p1, .int p2, .ref (la 0), .ref (la 1)])).length) Slot.unset).toArray = ls at hl ⊢
  have hl : lv_has ls 9 [(0, .ref (ad 0)), (1, .int p1), (2, .int p2), (3, .ref (la 0)), (4, .ref (la 1))] := hl
  have e : Rz = pf_L_machines lp kl p1 p2 lm kc kh fo := hRd.symm
  rw [pf_L_machines] at e
  have hb_46 : ∀ (x5 : Int32) (x6 : Int32) (z1 : Int32) (z2 : Int32) (z3 : Int32) (z4 : Int32) (lm : Nat → Int32) (kc : Nat → Int32) (kh : Nat → Int32) (fo : Nat → Nat → Int32) (H : Heap) (locs : List Loc) (ls : Array Slot), va_P D vwCl (kv_lkw ci la ad lm lp lr lq kc kh ks fo kl kp dy mo n pa aE qp qm ql qv qc qe mt mv sw hv tk tn sc) H → va_D A (kv_lkw ci la ad lm lp lr lq kc kh ks fo kl kp dy mo n pa aE qp qm ql qv qc qe mt mv sw hv tk tn sc) → va_S A s.heap H locs → lv_has ls 9 [(0, .ref (ad 0)), (3, .ref (la 0)), (5, .int x5), (6, .int x6)] → Rz = pf_L_machines_46 lp kl p1 p2  x5 x6 z1 z2 z3 z4 lm kc kh fo → W p l en rmL_machines s m args below meth c H locs 0 0 Q (F0 m 46 ls [.int z4, .int z3, .int z2, .int z1, .ref (la 0)]) := by
    intro x5 x6 z1 z2 z3 z4 lm kc kh fo H locs ls  hP hD hS hl e
    rw [pf_L_machines_46] at e
    have hP : va_P D vwCl ((kv_lw ci la lm lp lr lq) ++ (kv_kw ci ad kc kh ks fo kl kp dy mo n pa aE qp qm ql qv qc qe mt mv sw hv tk tn sc)) H := hP
    have hD : va_D A ((kv_lw ci la lm lp lr lq) ++ (kv_kw ci ad kc kh ks fo kl kp dy mo n pa aE qp qm ql qv qc qe mt mv sw hv tk tn sc)) := hD
    refine kv_calliF (va_runS (As := [.int z3, .int z4]) (rest := [.int z2, .int z1, .ref (la 0)]) ⟨hx, hb, hml, hown, hts⟩ (c_L_low l D ci la lm lp lr lq z3 z4 (kv_q1_n e hRz) H.size) (va_cwS 2 hts gL_machines_L_low rfl rfl rfl (by decide +kernel) ⟨Nat.le_of_ble_eq_true rfl, Nat.le_of_ble_eq_true rfl⟩) (kv_preS hK (kv_Pl hP) (kv_Dl hD)) rfl rfl hl.1 rfl (lv_room (Nat.le_of_ble_eq_true rfl)) dL_machines_46 ⟨Nat.le_of_ble_eq_true rfl, Nat.le_of_ble_eq_true rfl⟩) hP hD hS hA (fun r_46 u_46 H locs hw_46 hP hD hS => ?_)
    have e := kv_q1_e e hw_46
    have hP : va_P D vwCl (kv_lkw ci la ad lm lp lr lq kc kh ks fo kl kp dy mo n pa aE qp qm ql qv qc qe mt mv sw hv tk tn sc) H := hP
    have hD : va_D A (kv_lkw ci la ad lm lp lr lq kc kh ks fo kl kp dy mo n pa aE qp qm ql qv qc qe mt mv sw hv tk tn sc) := hD
    refine lv_iadd hx hb dL_machines_49 ?_
    obtain ⟨hi_50, e⟩ := kv_G_e e hRz
    refine kv_iast hx hb hK hP hD hS 0 0 (fun g_50 => (kv_lkw ci la ad g_50 lp lr lq kc kh ks fo kl kp dy mo n pa aE qp qm ql qv qc qe mt mv sw hv tk tn sc)) hi_50 dL_machines_50 rfl rfl (fun _ => rfl) (fun g_50 H locs eg_50 hP hD hS => ?_)
    have e := kv_T_e e eg_50
    refine lv_aload_n hx hb dL_machines_51 rfl (lv_at hl 0 rfl) ?_
    refine lv_iload hx hb dL_machines_52 (lv_at hl 2 rfl) ?_
    refine lv_aload_n hx hb dL_machines_54 rfl (lv_at hl 1 rfl) ?_
    refine lv_iconst (v := 4) hx hb dL_machines_55 (by decide) ?_
    refine lv_iload hx hb dL_machines_56 (lv_at hl 2 rfl) ?_
    refine lv_imul hx hb dL_machines_58 ?_
    obtain ⟨hi_59, e⟩ := kv_G_e e hRz
    refine kv_iald hx hb hK hP 0 0 hi_59 dL_machines_59 rfl rfl (fun y_59 ey_59 => ?_)
    have e := kv_T_e e ey_59
    have hP : va_P D vwCl ((kv_kw ci ad kc kh ks fo kl kp dy mo n pa aE qp qm ql qv qc qe mt mv sw hv tk tn sc) ++ (kv_lw ci la g_50 lp lr lq)) H := kv_commP hP
    have hD : va_D A ((kv_kw ci ad kc kh ks fo kl kp dy mo n pa aE qp qm ql qv qc qe mt mv sw hv tk tn sc) ++ (kv_lw ci la g_50 lp lr lq)) := kv_commD hD
    refine kv_calliF (va_runV (As := [.int x5, .int y_59]) (rest := []) ⟨hx, hb, hml, hown, hts⟩ (c_X2n_setCores l D ci ad kc kh ks fo kl kp dy mo n pa aE qp qm ql qv qc qe mt mv sw hv tk tn sc x5 y_59 (kv_q2_n e hRz) H.size) (cwV 2 hts gL_machines_X2_setCores rfl rfl rfl (by decide +kernel) ⟨Nat.le_of_ble_eq_true rfl, Nat.le_of_ble_eq_true rfl⟩) (kv_preV hK (kv_Pl hP) (kv_Dl hD) (r := (RX2, TX2, 9)) (q0 := 0) (k := 3) rfl rfl rfl) rfl rfl hl.1 rfl (lv_room (Nat.le_of_ble_eq_true rfl)) dL_machines_60 ⟨Nat.le_of_ble_eq_true rfl, Nat.le_of_ble_eq_true rfl⟩) hP hD hS hA (fun r_60 u_60 H locs hw_60 hP hD hS => ?_)
    have e := kv_q2_e e hw_60
    have hP : va_P D vwCl (kv_lkw ci la ad g_50 lp lr lq u_60 kh ks fo kl kp dy mo n pa aE qp qm ql qv qc qe mt mv sw hv tk tn sc) H := kv_commP hP
    have hD : va_D A (kv_lkw ci la ad g_50 lp lr lq u_60 kh ks fo kl kp dy mo n pa aE qp qm ql qv qc qe mt mv sw hv tk tn sc) := kv_commD hD
    refine lv_iload hx hb dL_machines_63 (lv_at hl 3 rfl) ?_
    refine lv_icmp_ne (tgt := 72) hx hb dL_machines_65 (by decide) (fun c_65 => ?_) (fun c_65 => ?_)
    · have e := e.trans (if_neg c_65)
      refine lv_iconst (v := 0) hx hb dL_machines_72 (by decide) ?_
      rw [hQ]
      refine W.widen (k := 3) (n := 18) (Nat.le_of_ble_eq_true rfl) (Nat.le_of_ble_eq_true rfl) ?_
      exact W.zret (v := 0) hx hb hr (by decide +kernel) (fun t ht hW => ⟨⟨0, (g_50, u_60, kh, fo), rfl, e, ⟨by rw [ht]; exact hP, by rw [hAe]; exact hD⟩⟩, hS.F ht⟩) hS.2.2 dL_machines_73
    · have e := e.trans (if_pos c_65)
      refine lv_iconst (v := 1) hx hb dL_machines_68 (by decide) ?_
      refine lv_goto (tgt := 73) hx hb dL_machines_69 (by decide) ?_
      rw [hQ]
      refine W.widen (k := 3) (n := 18) (Nat.le_of_ble_eq_true rfl) (Nat.le_of_ble_eq_true rfl) ?_
      exact W.zret (v := 1) hx hb hr (by decide +kernel) (fun t ht hW => ⟨⟨1, (g_50, u_60, kh, fo), rfl, e, ⟨by rw [ht]; exact hP, by rw [hAe]; exact hD⟩⟩, hS.F ht⟩) hS.2.2 dL_machines_73
  have hb_154 : ∀ (z0 : Int32) (z1 : Int32) (lm : Nat → Int32) (kc : Nat → Int32) (kh : Nat → Int32) (fo : Nat → Nat → Int32) (H : Heap) (locs : List Loc) (ls : Array Slot), va_P D vwCl (kv_lkw ci la ad lm lp lr lq kc kh ks fo kl kp dy mo n pa aE qp qm ql qv qc qe mt mv sw hv tk tn sc) H → va_D A (kv_lkw ci la ad lm lp lr lq kc kh ks fo kl kp dy mo n pa aE qp qm ql qv qc qe mt mv sw hv tk tn sc) → va_S A s.heap H locs → lv_has ls 9 [] → Rz = pf_L_machines_154 lp kl p1 p2  z0 z1 lm kc kh fo → W p l en rmL_machines s m args below meth c H locs 3 18 Q (F0 m 154 ls [.int z1, .int z0]) := by
    intro z0 z1 lm kc kh fo H locs ls  hP hD hS hl e
    rw [pf_L_machines_154] at e
    refine lv_icmp_ne (tgt := 161) hx hb dL_machines_154 (by decide) (fun c_154 => ?_) (fun c_154 => ?_)
    · have e := e.trans (if_neg c_154)
      refine lv_iconst (v := 0) hx hb dL_machines_161 (by decide) ?_
      rw [hQ]
      exact W.zret (v := 0) hx hb hr (by decide +kernel) (fun t ht hW => ⟨⟨0, (lm, kc, kh, fo), rfl, e, ⟨by rw [ht]; exact hP, by rw [hAe]; exact hD⟩⟩, hS.F ht⟩) hS.2.2 dL_machines_162
    · have e := e.trans (if_pos c_154)
      refine lv_iconst (v := 1) hx hb dL_machines_157 (by decide) ?_
      refine lv_goto (tgt := 162) hx hb dL_machines_158 (by decide) ?_
      rw [hQ]
      exact W.zret (v := 1) hx hb hr (by decide +kernel) (fun t ht hW => ⟨⟨1, (lm, kc, kh, fo), rfl, e, ⟨by rw [ht]; exact hP, by rw [hAe]; exact hD⟩⟩, hS.F ht⟩) hS.2.2 dL_machines_162
  have hb_130 : ∀ (x5 : Int32) (x6 : Int32) (x7 : Int32) (x8 : Int32) (z1 : Int32) (z2 : Int32) (lm : Nat → Int32) (kc : Nat → Int32) (kh : Nat → Int32) (fo : Nat → Nat → Int32) (H : Heap) (locs : List Loc) (ls : Array Slot), va_P D vwCl (kv_lkw ci la ad lm lp lr lq kc kh ks fo kl kp dy mo n pa aE qp qm ql qv qc qe mt mv sw hv tk tn sc) H → va_D A (kv_lkw ci la ad lm lp lr lq kc kh ks fo kl kp dy mo n pa aE qp qm ql qv qc qe mt mv sw hv tk tn sc) → va_S A s.heap H locs → lv_has ls 9 [(0, .ref (ad 0)), (5, .int x5), (6, .int x6), (7, .int x7), (8, .int x8)] → Rz = pf_L_machines_130 lp kl p1 p2  x5 x6 x7 x8 z1 z2 lm kc kh fo → W p l en rmL_machines s m args below meth c H locs 0 0 Q (F0 m 130 ls [.int z2, .int z1, .ref (la 0)]) := by
    intro x5 x6 x7 x8 z1 z2 lm kc kh fo H locs ls  hP hD hS hl e
    rw [pf_L_machines_130] at e
    obtain ⟨hi_130, e⟩ := kv_G_e e hRz
    refine kv_iast hx hb hK hP hD hS 0 0 (fun g_130 => (kv_lkw ci la ad g_130 lp lr lq kc kh ks fo kl kp dy mo n pa aE qp qm ql qv qc qe mt mv sw hv tk tn sc)) hi_130 dL_machines_130 rfl rfl (fun _ => rfl) (fun g_130 H locs eg_130 hP hD hS => ?_)
    have e := kv_T_e e eg_130
    refine lv_aload_n hx hb dL_machines_131 rfl (lv_at hl 0 rfl) ?_
    refine lv_iconst (v := 0) hx hb dL_machines_132 (by decide) ?_
    refine lv_iload hx hb dL_machines_133 (lv_at hl 1 rfl) ?_
    refine lv_iload hx hb dL_machines_135 (lv_at hl 2 rfl) ?_
    refine lv_iconst (v := 0) hx hb dL_machines_137 (by decide) ?_
    refine lv_iconst (v := 0) hx hb dL_machines_138 (by decide) ?_
    have hP : va_P D vwCl ((kv_kw ci ad kc kh ks fo kl kp dy mo n pa aE qp qm ql qv qc qe mt mv sw hv tk tn sc) ++ (kv_lw ci la g_130 lp lr lq)) H := kv_commP hP
    have hD : va_D A ((kv_kw ci ad kc kh ks fo kl kp dy mo n pa aE qp qm ql qv qc qe mt mv sw hv tk tn sc) ++ (kv_lw ci la g_130 lp lr lq)) := kv_commD hD
    refine kv_calliF (vx_runSW (As := [.ref (ad 0), .int 0, .int x5, .int x6, .int 0, .int 0]) (rest := []) ⟨hx, hb, hml, hown, hts⟩ (c_L_calls_0 l hl9 D ci ad aS kc kh ks fo kl kp dy mo n pa aE qp qm ql qv qc qe mt mv sw hv tk tn sc x5 x6 0 0 (kv_q2_n e hRz) H.size) (vx_cwSW 6 hts gL_machines_L_calls rfl rfl rfl (by decide +kernel) ⟨Nat.le_of_ble_eq_true rfl, Nat.le_of_ble_eq_true rfl⟩) (kv_preSW hK (kv_Pl hP) (kv_Dl hD) hT hT2 hN hS hA) rfl rfl hl.1 rfl (lv_room (Nat.le_of_ble_eq_true rfl)) dL_machines_139 ⟨Nat.le_of_ble_eq_true rfl, Nat.le_of_ble_eq_true rfl⟩) hP hD hS hA (fun r_139 u_139 H locs hw_139 hP hD hS => ?_)
    have e := kv_q2_e e hw_139
    have hP : va_P D vwCl (kv_lkw ci la ad g_130 lp lr lq kc u_139 ks fo kl kp dy mo n pa aE qp qm ql qv qc qe mt mv sw hv tk tn sc) H := kv_commP hP
    have hD : va_D A (kv_lkw ci la ad g_130 lp lr lq kc u_139 ks fo kl kp dy mo n pa aE qp qm ql qv qc qe mt mv sw hv tk tn sc) := kv_commD hD
    refine lv_iload hx hb dL_machines_142 (lv_at hl 3 rfl) ?_
    refine lv_if_ge (tgt := 152) hx hb dL_machines_144 (by decide) (fun c_144 => ?_) (fun c_144 => ?_)
    · have e := e.trans (if_pos c_144)
      refine lv_iload hx hb dL_machines_152 (lv_at hl 4 rfl) ?_
      exact hb_154 r_139 x8 g_130 kc u_139 fo _ _ _  hP hD hS (lv_sub hl [] rfl) e
    · have e := e.trans (if_neg c_144)
      refine lv_iload hx hb dL_machines_147 (lv_at hl 3 rfl) ?_
      refine lv_goto (tgt := 154) hx hb dL_machines_149 (by decide) ?_
      exact hb_154 r_139 x7 g_130 kc u_139 fo _ _ _  hP hD hS (lv_sub hl [] rfl) e
  refine lv_iload_n hx hb dL_machines_0 rfl (lv_at hl 2 rfl) ?_
  refine lv_iconst (v := 5) hx hb dL_machines_1 (by decide) ?_
  have hP : va_P D vwCl ((kv_lw ci la lm lp lr lq) ++ (kv_kw ci ad kc kh ks fo kl kp dy mo n pa aE qp qm ql qv qc qe mt mv sw hv tk tn sc)) s.heap := hP
  have hD : va_D A ((kv_lw ci la lm lp lr lq) ++ (kv_kw ci ad kc kh ks fo kl kp dy mo n pa aE qp qm ql qv qc qe mt mv sw hv tk tn sc)) := hD
  refine kv_calliF (va_runS (As := [.int p2, .int 5]) (rest := []) ⟨hx, hb, hml, hown, hts⟩ (c_L_low l D ci la lm lp lr lq p2 5 (kv_q1_n e hRz) s.heap.size) (va_cwS 2 hts gL_machines_L_low rfl rfl rfl (by decide +kernel) ⟨Nat.le_of_ble_eq_true rfl, Nat.le_of_ble_eq_true rfl⟩) (kv_preS hK (kv_Pl hP) (kv_Dl hD)) rfl rfl hl.1 rfl (lv_room (Nat.le_of_ble_eq_true rfl)) dL_machines_2 ⟨Nat.le_of_ble_eq_true rfl, Nat.le_of_ble_eq_true rfl⟩) hP hD hS hA (fun r_2 u_2 H locs hw_2 hP hD hS => ?_)
  have e := kv_q1_e e hw_2
  have hP : va_P D vwCl (kv_lkw ci la ad lm lp lr lq kc kh ks fo kl kp dy mo n pa aE qp qm ql qv qc qe mt mv sw hv tk tn sc) H := hP
  have hD : va_D A (kv_lkw ci la ad lm lp lr lq kc kh ks fo kl kp dy mo n pa aE qp qm ql qv qc qe mt mv sw hv tk tn sc) := hD
  refine lv_istore (lv' := [(5, .int r_2), (0, .ref (ad 0)), (1, .int p1), (2, .int p2), (3, .ref (la 0)), (4, .ref (la 1))]) hx hb dL_machines_5 hl (by decide) rfl (fun ls hl => ?_)
  refine lv_iload_n hx hb dL_machines_7 rfl (lv_at hl 2 rfl) ?_
  refine lv_if_ne (tgt := 74) hx hb dL_machines_8 (by decide) (fun c_8 => ?_) (fun c_8 => ?_)
  · have e := e.trans (if_neg c_8)
    refine lv_iload_n hx hb dL_machines_74 rfl (lv_at hl 2 rfl) ?_
    refine lv_iconst (v := 1) hx hb dL_machines_75 (by decide) ?_
    refine lv_icmp_ne (tgt := 163) hx hb dL_machines_76 (by decide) (fun c_76 => ?_) (fun c_76 => ?_)
    · have e := e.trans (if_neg c_76)
      refine lv_iload_n hx hb dL_machines_163 rfl (lv_at hl 3 rfl) ?_
      refine lv_iconst (v := 3) hx hb dL_machines_164 (by decide) ?_
      refine lv_ishr hx hb dL_machines_165 ?_
      refine lv_iconst (v := 2) hx hb dL_machines_166 (by decide) ?_
      have hP : va_P D vwCl ((kv_lw ci la lm lp lr lq) ++ (kv_kw ci ad kc kh ks fo kl kp dy mo n pa aE qp qm ql qv qc qe mt mv sw hv tk tn sc)) H := hP
      have hD : va_D A ((kv_lw ci la lm lp lr lq) ++ (kv_kw ci ad kc kh ks fo kl kp dy mo n pa aE qp qm ql qv qc qe mt mv sw hv tk tn sc)) := hD
      refine kv_calliF (va_runS (As := [.int (p2 >>> (3 &&& 31)), .int 2]) (rest := []) ⟨hx, hb, hml, hown, hts⟩ (c_L_low l D ci la lm lp lr lq (p2 >>> (3 &&& 31)) 2 (kv_q1_n e hRz) H.size) (va_cwS 2 hts gL_machines_L_low rfl rfl rfl (by decide +kernel) ⟨Nat.le_of_ble_eq_true rfl, Nat.le_of_ble_eq_true rfl⟩) (kv_preS hK (kv_Pl hP) (kv_Dl hD)) rfl rfl hl.1 rfl (lv_room (Nat.le_of_ble_eq_true rfl)) dL_machines_167 ⟨Nat.le_of_ble_eq_true rfl, Nat.le_of_ble_eq_true rfl⟩) hP hD hS hA (fun r_167 u_167 H locs hw_167 hP hD hS => ?_)
      have e := kv_q1_e e hw_167
      have hP : va_P D vwCl (kv_lkw ci la ad lm lp lr lq kc kh ks fo kl kp dy mo n pa aE qp qm ql qv qc qe mt mv sw hv tk tn sc) H := hP
      have hD : va_D A (kv_lkw ci la ad lm lp lr lq kc kh ks fo kl kp dy mo n pa aE qp qm ql qv qc qe mt mv sw hv tk tn sc) := hD
      refine lv_istore (lv' := [(6, .int r_167), (5, .int r_2), (0, .ref (ad 0)), (1, .int p1), (2, .int p2), (3, .ref (la 0)), (4, .ref (la 1))]) hx hb dL_machines_170 hl (by decide) rfl (fun ls hl => ?_)
      refine lv_aload_n hx hb dL_machines_172 rfl (lv_at hl 5 rfl) ?_
      refine lv_iconst (v := 4) hx hb dL_machines_173 (by decide) ?_
      refine lv_iload hx hb dL_machines_174 (lv_at hl 1 rfl) ?_
      refine lv_imul hx hb dL_machines_176 ?_
      refine lv_iconst (v := 2) hx hb dL_machines_177 (by decide) ?_
      refine lv_iadd hx hb dL_machines_178 ?_
      refine lv_iload hx hb dL_machines_179 (lv_at hl 0 rfl) ?_
      refine lv_iadd hx hb dL_machines_181 ?_
      obtain ⟨hi_182, e⟩ := kv_G_e e hRz
      refine kv_iald hx hb hK hP 0 0 hi_182 dL_machines_182 rfl rfl (fun y_182 ey_182 => ?_)
      have e := kv_T_e e ey_182
      refine lv_istore (lv' := [(7, .int y_182), (6, .int r_167), (5, .int r_2), (0, .ref (ad 0)), (1, .int p1), (2, .int p2), (3, .ref (la 0)), (4, .ref (la 1))]) hx hb dL_machines_183 hl (by decide) rfl (fun ls hl => ?_)
      refine lv_iload_n hx hb dL_machines_185 rfl (lv_at hl 5 rfl) ?_
      refine lv_iconst (v := 5) hx hb dL_machines_186 (by decide) ?_
      refine lv_ishr hx hb dL_machines_187 ?_
      refine lv_aload hx hb dL_machines_188 (lv_at hl 7 rfl) ?_
      refine lv_iconst (v := 2) hx hb dL_machines_190 (by decide) ?_
      refine lv_iload hx hb dL_machines_191 (lv_at hl 1 rfl) ?_
      refine lv_imul hx hb dL_machines_193 ?_
      obtain ⟨hi_194, e⟩ := kv_G_e e hRz
      refine kv_iald hx hb hK hP 1 0 hi_194 dL_machines_194 rfl rfl (fun y_194 ey_194 => ?_)
      have e := kv_T_e e ey_194
      refine lv_iconst (v := 1) hx hb dL_machines_195 (by decide) ?_
      refine lv_iadd hx hb dL_machines_196 ?_
      have hP : va_P D vwCl ((kv_lw ci la lm lp lr lq) ++ (kv_kw ci ad kc kh ks fo kl kp dy mo n pa aE qp qm ql qv qc qe mt mv sw hv tk tn sc)) H := hP
      have hD : va_D A ((kv_lw ci la lm lp lr lq) ++ (kv_kw ci ad kc kh ks fo kl kp dy mo n pa aE qp qm ql qv qc qe mt mv sw hv tk tn sc)) := hD
      refine kv_calliF (va_runS (As := [.int (p2 >>> (5 &&& 31)), .int (y_194 + 1)]) (rest := []) ⟨hx, hb, hml, hown, hts⟩ (c_L_low l D ci la lm lp lr lq (p2 >>> (5 &&& 31)) (y_194 + 1) (kv_q1_n e hRz) H.size) (va_cwS 2 hts gL_machines_L_low rfl rfl rfl (by decide +kernel) ⟨Nat.le_of_ble_eq_true rfl, Nat.le_of_ble_eq_true rfl⟩) (kv_preS hK (kv_Pl hP) (kv_Dl hD)) rfl rfl hl.1 rfl (lv_room (Nat.le_of_ble_eq_true rfl)) dL_machines_197 ⟨Nat.le_of_ble_eq_true rfl, Nat.le_of_ble_eq_true rfl⟩) hP hD hS hA (fun r_197 u_197 H locs hw_197 hP hD hS => ?_)
      have e := kv_q1_e e hw_197
      have hP : va_P D vwCl (kv_lkw ci la ad lm lp lr lq kc kh ks fo kl kp dy mo n pa aE qp qm ql qv qc qe mt mv sw hv tk tn sc) H := hP
      have hD : va_D A (kv_lkw ci la ad lm lp lr lq kc kh ks fo kl kp dy mo n pa aE qp qm ql qv qc qe mt mv sw hv tk tn sc) := hD
      refine lv_istore (lv' := [(8, .int r_197), (7, .int y_182), (6, .int r_167), (5, .int r_2), (0, .ref (ad 0)), (1, .int p1), (2, .int p2), (3, .ref (la 0)), (4, .ref (la 1))]) hx hb dL_machines_200 hl (by decide) rfl (fun ls hl => ?_)
      refine lv_aload_n hx hb dL_machines_202 rfl (lv_at hl 7 rfl) ?_
      refine lv_iconst (v := 4) hx hb dL_machines_203 (by decide) ?_
      refine lv_iload hx hb dL_machines_204 (lv_at hl 3 rfl) ?_
      refine lv_imul hx hb dL_machines_206 ?_
      refine lv_iconst (v := 2) hx hb dL_machines_207 (by decide) ?_
      refine lv_iadd hx hb dL_machines_208 ?_
      refine lv_iload hx hb dL_machines_209 (lv_at hl 2 rfl) ?_
      refine lv_iadd hx hb dL_machines_211 ?_
      refine lv_iload hx hb dL_machines_212 (lv_at hl 0 rfl) ?_
      obtain ⟨hi_214, e⟩ := kv_G_e e hRz
      refine kv_iast hx hb hK hP hD hS 0 0 (fun g_214 => (kv_lkw ci la ad g_214 lp lr lq kc kh ks fo kl kp dy mo n pa aE qp qm ql qv qc qe mt mv sw hv tk tn sc)) hi_214 dL_machines_214 rfl rfl (fun _ => rfl) (fun g_214 H locs eg_214 hP hD hS => ?_)
      have e := kv_T_e e eg_214
      refine lv_aload_n hx hb dL_machines_215 rfl (lv_at hl 4 rfl) ?_
      refine lv_iload hx hb dL_machines_216 (lv_at hl 3 rfl) ?_
      refine lv_iload hx hb dL_machines_218 (lv_at hl 2 rfl) ?_
      refine lv_iload hx hb dL_machines_220 (lv_at hl 0 rfl) ?_
      have hP : va_P D vwCl ((kv_kw ci ad kc kh ks fo kl kp dy mo n pa aE qp qm ql qv qc qe mt mv sw hv tk tn sc) ++ (kv_lw ci la g_214 lp lr lq)) H := kv_commP hP
      have hD : va_D A ((kv_kw ci ad kc kh ks fo kl kp dy mo n pa aE qp qm ql qv qc qe mt mv sw hv tk tn sc) ++ (kv_lw ci la g_214 lp lr lq)) := kv_commD hD
      refine kv_calliF (va_runV (As := [.int r_2, .int r_167, .int r_197]) (rest := []) ⟨hx, hb, hml, hown, hts⟩ (c_X2n_find l D ci ad kc kh ks fo kl kp dy mo n pa aE qp qm ql qv qc qe mt mv sw hv tk tn sc r_2 r_167 r_197 (kv_q2_n e hRz) H.size) (cwV 3 hts gL_machines_X2_find rfl rfl rfl (by decide +kernel) ⟨Nat.le_of_ble_eq_true rfl, Nat.le_of_ble_eq_true rfl⟩) (kv_preV hK (kv_Pl hP) (kv_Dl hD) (r := (RX2, TX2, 9)) (q0 := 0) (k := 3) rfl rfl rfl) rfl rfl hl.1 rfl (lv_room (Nat.le_of_ble_eq_true rfl)) dL_machines_222 ⟨Nat.le_of_ble_eq_true rfl, Nat.le_of_ble_eq_true rfl⟩) hP hD hS hA (fun r_222 u_222 H locs hw_222 hP hD hS => ?_)
      have e := kv_q2_e e hw_222
      have hP : va_P D vwCl (kv_lkw ci la ad g_214 lp lr lq kc kh ks u_222 kl kp dy mo n pa aE qp qm ql qv qc qe mt mv sw hv tk tn sc) H := kv_commP hP
      have hD : va_D A (kv_lkw ci la ad g_214 lp lr lq kc kh ks u_222 kl kp dy mo n pa aE qp qm ql qv qc qe mt mv sw hv tk tn sc) := kv_commD hD
      refine lv_iload hx hb dL_machines_225 (lv_at hl 1 rfl) ?_
      refine lv_icmp_ne (tgt := 234) hx hb dL_machines_227 (by decide) (fun c_227 => ?_) (fun c_227 => ?_)
      · have e := e.trans (if_neg c_227)
        refine lv_iconst (v := 0) hx hb dL_machines_234 (by decide) ?_
        rw [hQ]
        refine W.widen (k := 3) (n := 18) (Nat.le_of_ble_eq_true rfl) (Nat.le_of_ble_eq_true rfl) ?_
        exact W.zret (v := 0) hx hb hr (by decide +kernel) (fun t ht hW => ⟨⟨0, (g_214, kc, kh, u_222), rfl, e, ⟨by rw [ht]; exact hP, by rw [hAe]; exact hD⟩⟩, hS.F ht⟩) hS.2.2 dL_machines_235
      · have e := e.trans (if_pos c_227)
        refine lv_iconst (v := 1) hx hb dL_machines_230 (by decide) ?_
        refine lv_goto (tgt := 235) hx hb dL_machines_231 (by decide) ?_
        rw [hQ]
        refine W.widen (k := 3) (n := 18) (Nat.le_of_ble_eq_true rfl) (Nat.le_of_ble_eq_true rfl) ?_
        exact W.zret (v := 1) hx hb hr (by decide +kernel) (fun t ht hW => ⟨⟨1, (g_214, kc, kh, u_222), rfl, e, ⟨by rw [ht]; exact hP, by rw [hAe]; exact hD⟩⟩, hS.F ht⟩) hS.2.2 dL_machines_235
    · have e := e.trans (if_pos c_76)
      refine lv_iload_n hx hb dL_machines_79 rfl (lv_at hl 3 rfl) ?_
      refine lv_iconst (v := 3) hx hb dL_machines_80 (by decide) ?_
      refine lv_ishr hx hb dL_machines_81 ?_
      refine lv_bipush (v := 6) hx hb dL_machines_82 (by decide) ?_
      have hP : va_P D vwCl ((kv_lw ci la lm lp lr lq) ++ (kv_kw ci ad kc kh ks fo kl kp dy mo n pa aE qp qm ql qv qc qe mt mv sw hv tk tn sc)) H := hP
      have hD : va_D A ((kv_lw ci la lm lp lr lq) ++ (kv_kw ci ad kc kh ks fo kl kp dy mo n pa aE qp qm ql qv qc qe mt mv sw hv tk tn sc)) := hD
      refine kv_calliF (va_runS (As := [.int (p2 >>> (3 &&& 31)), .int 6]) (rest := []) ⟨hx, hb, hml, hown, hts⟩ (c_L_low l D ci la lm lp lr lq (p2 >>> (3 &&& 31)) 6 (kv_q1_n e hRz) H.size) (va_cwS 2 hts gL_machines_L_low rfl rfl rfl (by decide +kernel) ⟨Nat.le_of_ble_eq_true rfl, Nat.le_of_ble_eq_true rfl⟩) (kv_preS hK (kv_Pl hP) (kv_Dl hD)) rfl rfl hl.1 rfl (lv_room (Nat.le_of_ble_eq_true rfl)) dL_machines_84 ⟨Nat.le_of_ble_eq_true rfl, Nat.le_of_ble_eq_true rfl⟩) hP hD hS hA (fun r_84 u_84 H locs hw_84 hP hD hS => ?_)
      have e := kv_q1_e e hw_84
      have hP : va_P D vwCl (kv_lkw ci la ad lm lp lr lq kc kh ks fo kl kp dy mo n pa aE qp qm ql qv qc qe mt mv sw hv tk tn sc) H := hP
      have hD : va_D A (kv_lkw ci la ad lm lp lr lq kc kh ks fo kl kp dy mo n pa aE qp qm ql qv qc qe mt mv sw hv tk tn sc) := hD
      refine lv_iconst (v := 1) hx hb dL_machines_87 (by decide) ?_
      refine lv_isub hx hb dL_machines_88 ?_
      refine lv_topi (fun y_89 ey_89 => ?_)
      have e := kv_T_e e ey_89
      refine lv_istore (lv' := [(6, .int y_89), (5, .int r_2), (0, .ref (ad 0)), (1, .int p1), (2, .int p2), (3, .ref (la 0)), (4, .ref (la 1))]) hx hb dL_machines_89 hl (by decide) rfl (fun ls hl => ?_)
      refine lv_iload hx hb dL_machines_91 (lv_at hl 1 rfl) ?_
      refine lv_iload hx hb dL_machines_93 (lv_at hl 0 rfl) ?_
      refine lv_aload_n hx hb dL_machines_95 rfl (lv_at hl 5 rfl) ?_
      have hP : va_P D vwCl ((kv_lw ci la lm lp lr lq) ++ (kv_kw ci ad kc kh ks fo kl kp dy mo n pa aE qp qm ql qv qc qe mt mv sw hv tk tn sc)) H := hP
      have hD : va_D A ((kv_lw ci la lm lp lr lq) ++ (kv_kw ci ad kc kh ks fo kl kp dy mo n pa aE qp qm ql qv qc qe mt mv sw hv tk tn sc)) := hD
      refine kv_calliF (va_runS (As := [.int r_2, .int y_89, .ref (la 0)]) (rest := []) ⟨hx, hb, hml, hown, hts⟩ (c_L_refuses l D ci la lm lp lr lq r_2 y_89 (kv_q1_n e hRz) H.size) (va_cwS 3 hts gL_machines_L_refuses rfl rfl rfl (by decide +kernel) ⟨Nat.le_of_ble_eq_true rfl, Nat.le_of_ble_eq_true rfl⟩) (kv_preS hK (kv_Pl hP) (kv_Dl hD)) rfl rfl hl.1 rfl (lv_room (Nat.le_of_ble_eq_true rfl)) dL_machines_96 ⟨Nat.le_of_ble_eq_true rfl, Nat.le_of_ble_eq_true rfl⟩) hP hD hS hA (fun r_96 u_96 H locs hw_96 hP hD hS => ?_)
      have e := kv_q1_e e hw_96
      have hP : va_P D vwCl (kv_lkw ci la ad lm lp lr lq kc kh ks fo kl kp dy mo n pa aE qp qm ql qv qc qe mt mv sw hv tk tn sc) H := hP
      have hD : va_D A (kv_lkw ci la ad lm lp lr lq kc kh ks fo kl kp dy mo n pa aE qp qm ql qv qc qe mt mv sw hv tk tn sc) := hD
      refine lv_istore (lv' := [(7, .int r_96), (6, .int y_89), (5, .int r_2), (0, .ref (ad 0)), (1, .int p1), (2, .int p2), (3, .ref (la 0)), (4, .ref (la 1))]) hx hb dL_machines_99 hl (by decide) rfl (fun ls hl => ?_)
      refine lv_aload_n hx hb dL_machines_101 rfl (lv_at hl 6 rfl) ?_
      refine lv_iconst (v := 4) hx hb dL_machines_102 (by decide) ?_
      refine lv_iload hx hb dL_machines_103 (lv_at hl 2 rfl) ?_
      refine lv_imul hx hb dL_machines_105 ?_
      refine lv_iconst (v := 1) hx hb dL_machines_106 (by decide) ?_
      refine lv_iadd hx hb dL_machines_107 ?_
      obtain ⟨hi_108, e⟩ := kv_G_e e hRz
      refine kv_iald hx hb hK hP 0 0 hi_108 dL_machines_108 rfl rfl (fun y_108 ey_108 => ?_)
      have e := kv_T_e e ey_108
      refine lv_istore (lv' := [(8, .int y_108), (7, .int r_96), (6, .int y_89), (5, .int r_2), (0, .ref (ad 0)), (1, .int p1), (2, .int p2), (3, .ref (la 0)), (4, .ref (la 1))]) hx hb dL_machines_109 hl (by decide) rfl (fun ls hl => ?_)
      refine lv_aload_n hx hb dL_machines_111 rfl (lv_at hl 7 rfl) ?_
      refine lv_iconst (v := 4) hx hb dL_machines_112 (by decide) ?_
      refine lv_iload hx hb dL_machines_113 (lv_at hl 3 rfl) ?_
      refine lv_imul hx hb dL_machines_115 ?_
      refine lv_iconst (v := 1) hx hb dL_machines_116 (by decide) ?_
      refine lv_iadd hx hb dL_machines_117 ?_
      refine lv_iload hx hb dL_machines_118 (lv_at hl 1 rfl) ?_
      refine lv_if_ge (tgt := 128) hx hb dL_machines_120 (by decide) (fun c_120 => ?_) (fun c_120 => ?_)
      · have e := e.trans (if_pos c_120)
        refine lv_iload hx hb dL_machines_128 (lv_at hl 2 rfl) ?_
        exact hb_130 r_2 y_89 r_96 y_108 ((4 * r_2) + 1) y_89 lm kc kh fo _ _ _  hP hD hS (lv_sub hl [4, 3, 2, 1, 0] rfl) e
      · have e := e.trans (if_neg c_120)
        refine lv_iload hx hb dL_machines_123 (lv_at hl 0 rfl) ?_
        refine lv_goto (tgt := 130) hx hb dL_machines_125 (by decide) ?_
        exact hb_130 r_2 y_89 r_96 y_108 ((4 * r_2) + 1) y_108 lm kc kh fo _ _ _  hP hD hS (lv_sub hl [4, 3, 2, 1, 0] rfl) e
  · have e := e.trans (if_pos c_8)
    refine lv_aload_n hx hb dL_machines_11 rfl (lv_at hl 4 rfl) ?_
    refine lv_iconst (v := 4) hx hb dL_machines_12 (by decide) ?_
    refine lv_iload hx hb dL_machines_13 (lv_at hl 0 rfl) ?_
    refine lv_imul hx hb dL_machines_15 ?_
    obtain ⟨hi_16, e⟩ := kv_G_e e hRz
    refine kv_iald hx hb hK hP 0 0 hi_16 dL_machines_16 rfl rfl (fun y_16 ey_16 => ?_)
    have e := kv_T_e e ey_16
    refine lv_istore (lv' := [(6, .int y_16), (5, .int r_2), (0, .ref (ad 0)), (1, .int p1), (2, .int p2), (3, .ref (la 0)), (4, .ref (la 1))]) hx hb dL_machines_17 hl (by decide) rfl (fun ls hl => ?_)
    refine lv_aload_n hx hb dL_machines_19 rfl (lv_at hl 5 rfl) ?_
    refine lv_iconst (v := 4) hx hb dL_machines_20 (by decide) ?_
    refine lv_iload hx hb dL_machines_21 (lv_at hl 1 rfl) ?_
    refine lv_imul hx hb dL_machines_23 ?_
    refine lv_iconst (v := 1) hx hb dL_machines_24 (by decide) ?_
    refine lv_iload_n hx hb dL_machines_25 rfl (lv_at hl 4 rfl) ?_
    refine lv_iconst (v := 3) hx hb dL_machines_26 (by decide) ?_
    refine lv_ishr hx hb dL_machines_27 ?_
    refine lv_iload_n hx hb dL_machines_28 rfl (lv_at hl 4 rfl) ?_
    refine lv_bipush (v := 13) hx hb dL_machines_29 (by decide) ?_
    refine lv_ishr hx hb dL_machines_31 ?_
    refine lv_iconst (v := 3) hx hb dL_machines_32 (by decide) ?_
    have hP : va_P D vwCl ((kv_lw ci la lm lp lr lq) ++ (kv_kw ci ad kc kh ks fo kl kp dy mo n pa aE qp qm ql qv qc qe mt mv sw hv tk tn sc)) H := hP
    have hD : va_D A ((kv_lw ci la lm lp lr lq) ++ (kv_kw ci ad kc kh ks fo kl kp dy mo n pa aE qp qm ql qv qc qe mt mv sw hv tk tn sc)) := hD
    refine kv_calliF (va_runS (As := [.int (p2 >>> (13 &&& 31)), .int 3]) (rest := [.int (p2 >>> (3 &&& 31)), .int 1, .int (4 * r_2), .ref (la 0)]) ⟨hx, hb, hml, hown, hts⟩ (c_L_low l D ci la lm lp lr lq (p2 >>> (13 &&& 31)) 3 (kv_q1_n e hRz) H.size) (va_cwS 2 hts gL_machines_L_low rfl rfl rfl (by decide +kernel) ⟨Nat.le_of_ble_eq_true rfl, Nat.le_of_ble_eq_true rfl⟩) (kv_preS hK (kv_Pl hP) (kv_Dl hD)) rfl rfl hl.1 rfl (lv_room (Nat.le_of_ble_eq_true rfl)) dL_machines_33 ⟨Nat.le_of_ble_eq_true rfl, Nat.le_of_ble_eq_true rfl⟩) hP hD hS hA (fun r_33 u_33 H locs hw_33 hP hD hS => ?_)
    have e := kv_q1_e e hw_33
    have hP : va_P D vwCl (kv_lkw ci la ad lm lp lr lq kc kh ks fo kl kp dy mo n pa aE qp qm ql qv qc qe mt mv sw hv tk tn sc) H := hP
    have hD : va_D A (kv_lkw ci la ad lm lp lr lq kc kh ks fo kl kp dy mo n pa aE qp qm ql qv qc qe mt mv sw hv tk tn sc) := hD
    refine lv_if_ne (tgt := 44) hx hb dL_machines_36 (by decide) (fun c_36 => ?_) (fun c_36 => ?_)
    · have e := e.trans (if_neg c_36)
      refine lv_bipush (v := 10) hx hb dL_machines_44 (by decide) ?_
      exact hb_46 r_2 y_16 (4 * r_2) 1 (p2 >>> (3 &&& 31)) 10 lm kc kh fo _ _ _  hP hD hS (lv_sub hl [2, 5, 1, 0] rfl) e
    · have e := e.trans (if_pos c_36)
      refine lv_bipush (v := 64) hx hb dL_machines_39 (by decide) ?_
      refine lv_goto (tgt := 46) hx hb dL_machines_41 (by decide) ?_
      exact hb_46 r_2 y_16 (4 * r_2) 1 (p2 >>> (3 &&& 31)) 64 lm kc kh fo _ _ _  hP hD hS (lv_sub hl [2, 5, 1, 0] rfl) e

def pf_L_rights_100 (lp : Nat → Int32) (kl : Nat → Int32) (dy : Int32) (p1 : Int32) (p2 : Int32)  (x7 : Int32) (z1 : Int32) (z2 : Int32) (z3 : Int32) (z4 : Int32) (lr : Nat → Int32) (lq : Nat → Int32) (mo : Int32) (n : Nat) (qp : Nat → Int32) (qm : Nat → Int32) (ql : Nat → Int32) (qv : Nat → Int32) (qc : Nat → Int32) (qe : Nat → Int32) : Option (Int32 × (Nat → Int32) × (Nat → Int32) × Int32 × Nat × (Nat → Int32) × (Nat → Int32) × (Nat → Int32) × (Nat → Int32) × (Nat → Int32) × (Nat → Int32)) :=
  kv_q1 (pf_L_low z3 z4) (fun r_100 => kv_G z1 60 (kv_T (upd lr z1.toNatClampNeg (z2 + r_100)) (fun g_104 => kv_G (x7 + 3) 60 (kv_T (upd g_104 (x7 + 3).toNatClampNeg 0) (fun g_112 => kv_G x7 60 (kv_T (g_112 x7.toNatClampNeg) (fun y_125 => kv_G (2 * y_125) 4 (kv_T (lp (2 * y_125).toNatClampNeg) (fun y_127 => kv_G (x7 + 4) 60 (kv_T (upd g_112 (x7 + 4).toNatClampNeg y_127) (fun g_128 => kv_q1 (pf_L_low (p2 >>> (6 &&& 31)) 40) (fun r_135 => kv_G (0 : Int32) 3 (kv_T (lq (0 : Int32).toNatClampNeg) (fun y_149 => kv_G (x7 + 5) 60 (kv_T (upd g_128 (x7 + 5).toNatClampNeg ((y_149 + r_135) - 1)) (fun g_155 => kv_G (1 : Int32) 3 (kv_T (lq (1 : Int32).toNatClampNeg) (fun y_160 => kv_G (1 : Int32) 3 (kv_T (upd lq (1 : Int32).toNatClampNeg (y_160 + 1)) (fun g_163 => kv_G x7 60 (kv_T (g_155 x7.toNatClampNeg) (fun y_170 => kv_G (x7 + 1) 60 (kv_T (g_155 (x7 + 1).toNatClampNeg) (fun y_177 => kv_G (x7 + 2) 60 (kv_T (g_155 (x7 + 2).toNatClampNeg) (fun y_184 => kv_q9 (pf_L_calls_2 kl dy y_170 y_177 y_184 r_135 mo n qp qm ql qv qc qe) (fun r_187 o0_187 o1_187 o2_187 o3_187 o4_187 o5_187 o6_187 o7_187 => kv_G (1 : Int32) 3 (kv_T (g_163 (1 : Int32).toNatClampNeg) (fun y_193 => if r_187 = (y_193 - 1) then some (1, g_155, g_163, o0_187, o1_187, o2_187, o3_187, o4_187, o5_187, o6_187, o7_187) else some (0, g_155, g_163, o0_187, o1_187, o2_187, o3_187, o4_187, o5_187, o6_187, o7_187))))))))))))))))))))))))))))))
def pf_L_rights_398 (lp : Nat → Int32) (kl : Nat → Int32) (dy : Int32) (p1 : Int32) (p2 : Int32)  (x6 : Int32) (x7 : Int32) (x10 : Int32) (lr : Nat → Int32) (lq : Nat → Int32) (mo : Int32) (n : Nat) (qp : Nat → Int32) (qm : Nat → Int32) (ql : Nat → Int32) (qv : Nat → Int32) (qc : Nat → Int32) (qe : Nat → Int32) : Option (Int32 × (Nat → Int32) × (Nat → Int32) × Int32 × Nat × (Nat → Int32) × (Nat → Int32) × (Nat → Int32) × (Nat → Int32) × (Nat → Int32) × (Nat → Int32)) :=
  kv_q9 (pf_L_calls_3 kl x6 x7 0 0 mo n qp qm ql qv qc qe) (fun r_406 o0_406 o1_406 o2_406 o3_406 o4_406 o5_406 o6_406 o7_406 => if r_406 = x10 then some (1, lr, lq, o0_406, o1_406, o2_406, o3_406, o4_406, o5_406, o6_406, o7_406) else some (0, lr, lq, o0_406, o1_406, o2_406, o3_406, o4_406, o5_406, o6_406, o7_406))
def pf_L_rights_291 (lp : Nat → Int32) (kl : Nat → Int32) (dy : Int32) (p1 : Int32) (p2 : Int32)  (x6 : Int32) (x7 : Int32) (x8 : Int32) (x9 : Int32) (z0 : Int32) (lr : Nat → Int32) (lq : Nat → Int32) (mo : Int32) (n : Nat) (qp : Nat → Int32) (qm : Nat → Int32) (ql : Nat → Int32) (qv : Nat → Int32) (qc : Nat → Int32) (qe : Nat → Int32) : Option (Int32 × (Nat → Int32) × (Nat → Int32) × Int32 × Nat × (Nat → Int32) × (Nat → Int32) × (Nat → Int32) × (Nat → Int32) × (Nat → Int32) × (Nat → Int32)) :=
  if x9 = 0 then pf_L_rights_398 lp kl dy p1 p2 x6 x7 z0 lr lq mo n qp qm ql qv qc qe else kv_G (1 : Int32) 3 (kv_T (lq (1 : Int32).toNatClampNeg) (fun y_303 => kv_T (6 * y_303) (fun y_305 => kv_T (x8 + 2) (fun y_313 => kv_G y_313 60 (kv_T (lr y_313.toNatClampNeg) (fun y_314 => kv_G y_313 60 (kv_T (upd lr y_313.toNatClampNeg (y_314 - x7)) (fun g_318 => kv_G x8 60 (kv_T (g_318 x8.toNatClampNeg) (fun y_327 => kv_G y_305 60 (kv_T (upd g_318 y_305.toNatClampNeg y_327) (fun g_328 => kv_G (x8 + 1) 60 (kv_T (g_328 (x8 + 1).toNatClampNeg) (fun y_341 => kv_G (y_305 + 1) 60 (kv_T (upd g_328 (y_305 + 1).toNatClampNeg y_341) (fun g_342 => kv_G (y_305 + 2) 60 (kv_T (upd g_342 (y_305 + 2).toNatClampNeg x7) (fun g_351 => kv_G (y_305 + 3) 60 (kv_T (upd g_351 (y_305 + 3).toNatClampNeg 0) (fun g_359 => kv_G x8 60 (kv_T (g_359 x8.toNatClampNeg) (fun y_372 => kv_G (2 * y_372) 4 (kv_T (lp (2 * y_372).toNatClampNeg) (fun y_374 => kv_G (y_305 + 4) 60 (kv_T (upd g_359 (y_305 + 4).toNatClampNeg y_374) (fun g_375 => kv_G (x8 + 5) 60 (kv_T (g_375 (x8 + 5).toNatClampNeg) (fun y_388 => kv_G (y_305 + 5) 60 (kv_T (upd g_375 (y_305 + 5).toNatClampNeg y_388) (fun g_389 => kv_G (1 : Int32) 3 (kv_T (lq (1 : Int32).toNatClampNeg) (fun y_394 => kv_G (1 : Int32) 3 (kv_T (upd lq (1 : Int32).toNatClampNeg (y_394 + 1)) (fun g_397 => pf_L_rights_398 lp kl dy p1 p2 x6 x7 z0 g_389 g_397 mo n qp qm ql qv qc qe))))))))))))))))))))))))))))))))))
def pf_L_rights_274 (lp : Nat → Int32) (kl : Nat → Int32) (dy : Int32) (p1 : Int32) (p2 : Int32)  (x6 : Int32) (x7 : Int32) (x8 : Int32) (z0 : Int32) (lr : Nat → Int32) (lq : Nat → Int32) (mo : Int32) (n : Nat) (qp : Nat → Int32) (qm : Nat → Int32) (ql : Nat → Int32) (qv : Nat → Int32) (qc : Nat → Int32) (qe : Nat → Int32) : Option (Int32 × (Nat → Int32) × (Nat → Int32) × Int32 × Nat × (Nat → Int32) × (Nat → Int32) × (Nat → Int32) × (Nat → Int32) × (Nat → Int32) × (Nat → Int32)) :=
  if z0 = 0 then pf_L_rights_291 lp kl dy p1 p2 x6 x7 x8 z0 (-2003) lr lq mo n qp qm ql qv qc qe else kv_G (1 : Int32) 3 (kv_T (lq (1 : Int32).toNatClampNeg) (fun y_284 => pf_L_rights_291 lp kl dy p1 p2 x6 x7 x8 z0 y_284 lr lq mo n qp qm ql qv qc qe))
def pf_L_rights_544 (lp : Nat → Int32) (kl : Nat → Int32) (dy : Int32) (p1 : Int32) (p2 : Int32)  (z0 : Int32) (z1 : Int32) (lr : Nat → Int32) (lq : Nat → Int32) (mo : Int32) (n : Nat) (qp : Nat → Int32) (qm : Nat → Int32) (ql : Nat → Int32) (qv : Nat → Int32) (qc : Nat → Int32) (qe : Nat → Int32) : Option (Int32 × (Nat → Int32) × (Nat → Int32) × Int32 × Nat × (Nat → Int32) × (Nat → Int32) × (Nat → Int32) × (Nat → Int32) × (Nat → Int32) × (Nat → Int32)) :=
  if z0 = z1 then some (1, lr, lq, mo, n, qp, qm, ql, qv, qc, qe) else some (0, lr, lq, mo, n, qp, qm, ql, qv, qc, qe)
def pf_L_rights_513 (lp : Nat → Int32) (kl : Nat → Int32) (dy : Int32) (p1 : Int32) (p2 : Int32)  (x6 : Int32) (x7 : Int32) (x8 : Int32) (x9 : Int32) (z1 : Int32) (z2 : Int32) (z3 : Int32) (lr : Nat → Int32) (lq : Nat → Int32) (mo : Int32) (n : Nat) (qp : Nat → Int32) (qm : Nat → Int32) (ql : Nat → Int32) (qv : Nat → Int32) (qc : Nat → Int32) (qe : Nat → Int32) : Option (Int32 × (Nat → Int32) × (Nat → Int32) × Int32 × Nat × (Nat → Int32) × (Nat → Int32) × (Nat → Int32) × (Nat → Int32) × (Nat → Int32) × (Nat → Int32)) :=
  kv_G z1 60 (kv_T (upd lr z1.toNatClampNeg (z2 + z3)) (fun g_514 => kv_q3 (pf_L_calls_4 n x6 x7 0 0 qc qe) (fun r_523 o0_523 o1_523 => if x9 = 0 then pf_L_rights_544 lp kl dy p1 p2 r_523 (-2003) g_514 lq mo n qp qm ql qv o0_523 o1_523 else kv_G (x8 + 3) 60 (kv_T (g_514 (x8 + 3).toNatClampNeg) (fun y_537 => pf_L_rights_544 lp kl dy p1 p2 r_523 y_537 g_514 lq mo n qp qm ql qv o0_523 o1_523)))))
def pf_L_rights_492 (lp : Nat → Int32) (kl : Nat → Int32) (dy : Int32) (p1 : Int32) (p2 : Int32)  (x6 : Int32) (x7 : Int32) (x8 : Int32) (x9 : Int32) (z1 : Int32) (z2 : Int32) (z3 : Int32) (lr : Nat → Int32) (lq : Nat → Int32) (mo : Int32) (n : Nat) (qp : Nat → Int32) (qm : Nat → Int32) (ql : Nat → Int32) (qv : Nat → Int32) (qc : Nat → Int32) (qe : Nat → Int32) : Option (Int32 × (Nat → Int32) × (Nat → Int32) × Int32 × Nat × (Nat → Int32) × (Nat → Int32) × (Nat → Int32) × (Nat → Int32) × (Nat → Int32) × (Nat → Int32)) :=
  kv_G z1 60 (kv_T (upd lr z1.toNatClampNeg (z2 - z3)) (fun g_493 => kv_T (x8 + 3) (fun y_500 => kv_G y_500 60 (kv_T (g_493 y_500.toNatClampNeg) (fun y_501 => if x9 = 0 then pf_L_rights_513 lp kl dy p1 p2 x6 x7 x8 x9 y_500 y_501 0 g_493 lq mo n qp qm ql qv qc qe else pf_L_rights_513 lp kl dy p1 p2 x6 x7 x8 x9 y_500 y_501 x7 g_493 lq mo n qp qm ql qv qc qe)))))
def pf_L_rights_471 (lp : Nat → Int32) (kl : Nat → Int32) (dy : Int32) (p1 : Int32) (p2 : Int32)  (x6 : Int32) (x7 : Int32) (x8 : Int32) (z0 : Int32) (lr : Nat → Int32) (lq : Nat → Int32) (mo : Int32) (n : Nat) (qp : Nat → Int32) (qm : Nat → Int32) (ql : Nat → Int32) (qv : Nat → Int32) (qc : Nat → Int32) (qe : Nat → Int32) : Option (Int32 × (Nat → Int32) × (Nat → Int32) × Int32 × Nat × (Nat → Int32) × (Nat → Int32) × (Nat → Int32) × (Nat → Int32) × (Nat → Int32) × (Nat → Int32)) :=
  kv_T (x8 + 2) (fun y_479 => kv_G y_479 60 (kv_T (lr y_479.toNatClampNeg) (fun y_480 => if z0 = 0 then pf_L_rights_492 lp kl dy p1 p2 x6 x7 x8 z0 y_479 y_480 0 lr lq mo n qp qm ql qv qc qe else pf_L_rights_492 lp kl dy p1 p2 x6 x7 x8 z0 y_479 y_480 x7 lr lq mo n qp qm ql qv qc qe)))
def pf_L_rights_439 (lp : Nat → Int32) (kl : Nat → Int32) (dy : Int32) (p1 : Int32) (p2 : Int32)  (x6 : Int32) (x8 : Int32) (z0 : Int32) (lr : Nat → Int32) (lq : Nat → Int32) (mo : Int32) (n : Nat) (qp : Nat → Int32) (qm : Nat → Int32) (ql : Nat → Int32) (qv : Nat → Int32) (qc : Nat → Int32) (qe : Nat → Int32) : Option (Int32 × (Nat → Int32) × (Nat → Int32) × Int32 × Nat × (Nat → Int32) × (Nat → Int32) × (Nat → Int32) × (Nat → Int32) × (Nat → Int32) × (Nat → Int32)) :=
  kv_G (x8 + 2) 60 (kv_T (lr (x8 + 2).toNatClampNeg) (fun y_447 => if y_447 < z0 then pf_L_rights_471 lp kl dy p1 p2 x6 z0 x8 0 lr lq mo n qp qm ql qv qc qe else kv_G (x8 + 3) 60 (kv_T (lr (x8 + 3).toNatClampNeg) (fun y_459 => if (y_459 + z0) < 0 then pf_L_rights_471 lp kl dy p1 p2 x6 z0 x8 0 lr lq mo n qp qm ql qv qc qe else pf_L_rights_471 lp kl dy p1 p2 x6 z0 x8 1 lr lq mo n qp qm ql qv qc qe))))
def pf_L_rights_420 (lp : Nat → Int32) (kl : Nat → Int32) (dy : Int32) (p1 : Int32) (p2 : Int32)  (x6 : Int32) (x7 : Int32) (x8 : Int32) (lr : Nat → Int32) (lq : Nat → Int32) (mo : Int32) (n : Nat) (qp : Nat → Int32) (qm : Nat → Int32) (ql : Nat → Int32) (qv : Nat → Int32) (qc : Nat → Int32) (qe : Nat → Int32) : Option (Int32 × (Nat → Int32) × (Nat → Int32) × Int32 × Nat × (Nat → Int32) × (Nat → Int32) × (Nat → Int32) × (Nat → Int32) × (Nat → Int32) × (Nat → Int32)) :=
  kv_q1 (pf_L_low (p2 >>> (9 &&& 31)) 2) (fun r_425 => if r_425 = 0 then pf_L_rights_439 lp kl dy p1 p2 x6 x8 x7 lr lq mo n qp qm ql qv qc qe else pf_L_rights_439 lp kl dy p1 p2 x6 x8 (-x7) lr lq mo n qp qm ql qv qc qe)
def pf_L_rights_205 (lp : Nat → Int32) (kl : Nat → Int32) (dy : Int32) (p1 : Int32) (p2 : Int32)  (x6 : Int32) (lr : Nat → Int32) (lq : Nat → Int32) (mo : Int32) (n : Nat) (qp : Nat → Int32) (qm : Nat → Int32) (ql : Nat → Int32) (qv : Nat → Int32) (qc : Nat → Int32) (qe : Nat → Int32) : Option (Int32 × (Nat → Int32) × (Nat → Int32) × Int32 × Nat × (Nat → Int32) × (Nat → Int32) × (Nat → Int32) × (Nat → Int32) × (Nat → Int32) × (Nat → Int32)) :=
  kv_q1 (pf_L_low (p2 >>> (4 &&& 31)) 12) (fun r_211 => kv_T (1 + r_211) (fun y_215 => kv_T (6 * x6) (fun y_222 => if p1 = 1 then kv_G (1 : Int32) 3 (kv_T (lq (1 : Int32).toNatClampNeg) (fun y_232 => if 10 ≤ y_232 then pf_L_rights_420 lp kl dy p1 p2 x6 y_215 y_222 lr lq mo n qp qm ql qv qc qe else kv_G (y_222 + 2) 60 (kv_T (lr (y_222 + 2).toNatClampNeg) (fun y_244 => if y_244 < y_215 then pf_L_rights_274 lp kl dy p1 p2 x6 y_215 y_222 0 lr lq mo n qp qm ql qv qc qe else kv_G (y_222 + 4) 60 (kv_T (lr (y_222 + 4).toNatClampNeg) (fun y_256 => kv_G y_222 60 (kv_T (lr y_222.toNatClampNeg) (fun y_263 => kv_G (2 * y_263) 4 (kv_T (lp (2 * y_263).toNatClampNeg) (fun y_265 => if y_265 ≤ y_256 then pf_L_rights_274 lp kl dy p1 p2 x6 y_215 y_222 0 lr lq mo n qp qm ql qv qc qe else pf_L_rights_274 lp kl dy p1 p2 x6 y_215 y_222 1 lr lq mo n qp qm ql qv qc qe)))))))))) else pf_L_rights_420 lp kl dy p1 p2 x6 y_215 y_222 lr lq mo n qp qm ql qv qc qe)))
def pf_L_rights_32 (lp : Nat → Int32) (kl : Nat → Int32) (dy : Int32) (p1 : Int32) (p2 : Int32)  (x6 : Int32) (lr : Nat → Int32) (lq : Nat → Int32) (mo : Int32) (n : Nat) (qp : Nat → Int32) (qm : Nat → Int32) (ql : Nat → Int32) (qv : Nat → Int32) (qc : Nat → Int32) (qe : Nat → Int32) : Option (Int32 × (Nat → Int32) × (Nat → Int32) × Int32 × Nat × (Nat → Int32) × (Nat → Int32) × (Nat → Int32) × (Nat → Int32) × (Nat → Int32) × (Nat → Int32)) :=
  kv_G (1 : Int32) 3 (kv_T (lq (1 : Int32).toNatClampNeg) (fun y_35 => if 10 ≤ y_35 then pf_L_rights_205 lp kl dy p1 p2 x6 lr lq mo n qp qm ql qv qc qe else kv_G (1 : Int32) 3 (kv_T (lq (1 : Int32).toNatClampNeg) (fun y_46 => kv_T (6 * y_46) (fun y_48 => kv_q1 (pf_L_low p2 2) (fun r_56 => kv_G y_48 60 (kv_T (upd lr y_48.toNatClampNeg r_56) (fun g_59 => kv_q1 (pf_L_low (p2 >>> (2 &&& 31)) 2) (fun r_70 => kv_G (y_48 + 1) 60 (kv_T (upd g_59 (y_48 + 1).toNatClampNeg r_70) (fun g_73 => kv_G (y_48 + 1) 60 (kv_T (g_73 (y_48 + 1).toNatClampNeg) (fun y_90 => if y_90 = 0 then pf_L_rights_100 lp kl dy p1 p2 y_48 (y_48 + 2) 1 (p2 >>> (4 &&& 31)) 3 g_73 lq mo n qp qm ql qv qc qe else pf_L_rights_100 lp kl dy p1 p2 y_48 (y_48 + 2) 1 (p2 >>> (4 &&& 31)) 30 g_73 lq mo n qp qm ql qv qc qe)))))))))))))
def pf_L_rights_19 (lp : Nat → Int32) (kl : Nat → Int32) (dy : Int32) (p1 : Int32) (p2 : Int32)  (z0 : Int32) (lr : Nat → Int32) (lq : Nat → Int32) (mo : Int32) (n : Nat) (qp : Nat → Int32) (qm : Nat → Int32) (ql : Nat → Int32) (qv : Nat → Int32) (qc : Nat → Int32) (qe : Nat → Int32) : Option (Int32 × (Nat → Int32) × (Nat → Int32) × Int32 × Nat × (Nat → Int32) × (Nat → Int32) × (Nat → Int32) × (Nat → Int32) × (Nat → Int32) × (Nat → Int32)) :=
  if p1 = 0 then pf_L_rights_32 lp kl dy p1 p2 z0 lr lq mo n qp qm ql qv qc qe else kv_G (1 : Int32) 3 (kv_T (lq (1 : Int32).toNatClampNeg) (fun y_28 => if y_28 = 0 then pf_L_rights_32 lp kl dy p1 p2 z0 lr lq mo n qp qm ql qv qc qe else pf_L_rights_205 lp kl dy p1 p2 z0 lr lq mo n qp qm ql qv qc qe))
def pf_L_rights (lp : Nat → Int32) (kl : Nat → Int32) (dy : Int32) (p1 : Int32) (p2 : Int32) (lr : Nat → Int32) (lq : Nat → Int32) (mo : Int32) (n : Nat) (qp : Nat → Int32) (qm : Nat → Int32) (ql : Nat → Int32) (qv : Nat → Int32) (qc : Nat → Int32) (qe : Nat → Int32) : Option (Int32 × (Nat → Int32) × (Nat → Int32) × Int32 × Nat × (Nat → Int32) × (Nat → Int32) × (Nat → Int32) × (Nat → Int32) × (Nat → Int32) × (Nat → Int32)) :=
  kv_G (1 : Int32) 3 (kv_T (lq (1 : Int32).toNatClampNeg) (fun y_3 => if y_3 = 0 then pf_L_rights_19 lp kl dy p1 p2 0 lr lq mo n qp qm ql qv qc qe else kv_G (1 : Int32) 3 (kv_T (lq (1 : Int32).toNatClampNeg) (fun y_15 => kv_q1 (pf_L_low p2 y_15) (fun r_16 => pf_L_rights_19 lp kl dy p1 p2 r_16 lr lq mo n qp qm ql qv qc qe)))))
abbrev rmL_rights : Room := { frames := 10, cells := 7, slots := 51, locals := 265 }
set_option maxHeartbeats 8000000 in
set_option maxRecDepth 100000 in
theorem c_L_rights (l : Launch) (hl9 : l.stackTraces = false) (D : va_G) (ci la ad : Nat → Nat) (aS : Nat) (lm : Nat → Int32) (lp : Nat → Int32) (lr : Nat → Int32) (lq : Nat → Int32) (kc : Nat → Int32) (kh : Nat → Int32) (ks : Nat → Int32) (fo : Nat → Nat → Int32) (kl : Nat → Int32) (kp : Nat → Int32) (dy : Int32) (mo : Int32) (n : Nat) (pa : Nat → Nat) (aE : Nat) (qp : Nat → Int32) (qm : Nat → Int32) (ql : Nat → Int32) (qv : Nat → Int32) (qc : Nat → Int32) (qe : Nat → Int32) (mt : Nat → Int32) (mv : Nat → Int32) (sw : Nat → Int32) (hv : Int32) (tk : Nat → Int32) (tn : Nat → Int32) (sc : Nat → Int32) (p1 : Int32) (p2 : Int32) (hE : n = 0 → aE = aS) (hRn : pf_L_rights lp kl dy p1 p2 lr lq mo n qp qm ql qv qc qe ≠ none) (sz : Nat) : Met l yL_rights wsL_rights rmL_rights (va_Pc [.ref (ad 0), .int p1, .int p2, .ref (la 1), .ref (la 2), .ref (la 3)] (kv_preW D ci aS (kv_lkw ci la ad lm lp lr lq kc kh ks fo kl kp dy mo n pa aE qp qm ql qv qc qe mt mv sw hv tk tn sc) sz)) (va_Qi (fun (r : Int32) (u : (Nat → Int32) × (Nat → Int32) × Int32 × Nat × (Nat → Int32) × (Nat → Int32) × (Nat → Int32) × (Nat → Int32) × (Nat → Int32) × (Nat → Int32) × (Nat → Nat) × Nat) => pf_L_rights lp kl dy p1 p2 lr lq mo n qp qm ql qv qc qe = some (r, u.1, u.2.1, u.2.2.1, u.2.2.2.1, u.2.2.2.2.1, u.2.2.2.2.2.1, u.2.2.2.2.2.2.1, u.2.2.2.2.2.2.2.1, u.2.2.2.2.2.2.2.2.1, u.2.2.2.2.2.2.2.2.2.1) ∧ (u.2.2.2.1 = 0 → u.2.2.2.2.2.2.2.2.2.2.2 = aS)) (fun u t => kv_post D (kv_lkw ci la ad lm lp lr lq kc kh ks fo kl kp dy mo n pa aE qp qm ql qv qc qe mt mv sw hv tk tn sc) sz (kv_lkw ci la ad lm lp u.1 u.2.1 kc kh ks fo kl kp dy u.2.2.1 u.2.2.2.1 u.2.2.2.2.2.2.2.2.2.2.1 u.2.2.2.2.2.2.2.2.2.2.2 u.2.2.2.2.1 u.2.2.2.2.2.1 u.2.2.2.2.2.2.1 u.2.2.2.2.2.2.2.1 u.2.2.2.2.2.2.2.2.1 u.2.2.2.2.2.2.2.2.2.1 mt mv sw hv tk tn sc) t) (va_A (kv_lkw ci la ad lm lp lr lq kc kh ks fo kl kp dy mo n pa aE qp qm ql qv qc qe mt mv sw hv tk tn sc) sz)) 7 51 (va_A (kv_lkw ci la ad lm lp lr lq kc kh ks fo kl kp dy mo n pa aE qp qm ql qv qc qe mt mv sw hv tk tn sc) sz) := by
  refine Met.ofW (cc := cL_rights) (maxL := 12) (ret := (some .boolean)) (by decide) rfl ?_
  intro p en s m args below meth c s₁ B hml hv
  obtain ⟨hv0, ⟨⟨⟨hsz, hP, hK, hD0⟩, hT⟩, hT2⟩, hN⟩ := hv
  have hx := B.exec
  have hb := B.bytes
  have hr := B.returns
  have hts := atoms_spec (ws := wsL_rights) B.pre
  have hown : s.vm.findClass RL = some m.cls := findClass_of_methodNamed B.named
  have hlocks := B.notSynchronized
  subst hsz
  have hD := hD0.self (sz := s.heap.size)
  generalize hAe : va_A (kv_lkw ci la ad lm lp lr lq kc kh ks fo kl kp dy mo n pa aE qp qm ql qv qc qe mt mv sw hv tk tn sc) s.heap.size = A at hD hT hT2 ⊢
  have hA : ∀ q : Nat, s.heap.size ≤ q → A q := fun q h => by rw [← hAe]; exact Or.inr h
  have hS : va_S A s.heap s.heap [] := va_S.rf
  have hP : va_P D vwCl (kv_lkw ci la ad lm lp lr lq kc kh ks fo kl kp dy mo n pa aE qp qm ql qv qc qe mt mv sw hv tk tn sc) s.heap := hP
  generalize hRd : pf_L_rights lp kl dy p1 p2 lr lq mo n qp qm ql qv qc qe = Rz at hRn
  have hRz := hRn
  refine kv_Q (fun Q hQ => ?_)
  refine W.eq (show entryFrame m args 12 = _ from by rw [hv0, lg_entry_eq]) ?_
  have hl := lv_entry ([.ref (ad 0), .int p1, .int p2, .ref (la 1), .ref (la 2), .ref (la 3)]) (n := 12) (Nat.le_of_ble_eq_true rfl)
  generalize (lg_sl ([.ref (ad 0), .int p1, .int p2, .ref (la 1), .ref (la 2), .ref (la 3)]) ++ List.replicate (12 - (lg_sl ([.ref (ad 0), .int p1, .int p2, .ref (la 1), .ref (la 2), .ref (la 3)])).length) Slot.unset).toArray = ls at hl ⊢
  have hl : lv_has ls 12 [(0, .ref (ad 0)), (1, .int p1), (2, .int p2), (3, .ref (la 1)), (4, .ref (la 2)), (5, .ref (la 3))] := hl
  have e : Rz = pf_L_rights lp kl dy p1 p2 lr lq mo n qp qm ql qv qc qe := hRd.symm
  rw [pf_L_rights] at e
  have hb_100 : ∀ (x7 : Int32) (z1 : Int32) (z2 : Int32) (z3 : Int32) (z4 : Int32) (lr : Nat → Int32) (lq : Nat → Int32) (mo : Int32) (n : Nat) (qp : Nat → Int32) (qm : Nat → Int32) (ql : Nat → Int32) (qv : Nat → Int32) (qc : Nat → Int32) (qe : Nat → Int32) (H : Heap) (locs : List Loc) (ls : Array Slot), (n = 0 → aE = aS) → va_P D vwCl (kv_lkw ci la ad lm lp lr lq kc kh ks fo kl kp dy mo n pa aE qp qm ql qv qc qe mt mv sw hv tk tn sc) H → va_D A (kv_lkw ci la ad lm lp lr lq kc kh ks fo kl kp dy mo n pa aE qp qm ql qv qc qe mt mv sw hv tk tn sc) → va_S A s.heap H locs → lv_has ls 12 [(0, .ref (ad 0)), (2, .int p2), (3, .ref (la 1)), (4, .ref (la 2)), (5, .ref (la 3)), (7, .int x7)] → Rz = pf_L_rights_100 lp kl dy p1 p2  x7 z1 z2 z3 z4 lr lq mo n qp qm ql qv qc qe → W p l en rmL_rights s m args below meth c H locs 0 0 Q (F0 m 100 ls [.int z4, .int z3, .int z2, .int z1, .ref (la 2)]) := by
    intro x7 z1 z2 z3 z4 lr lq mo n qp qm ql qv qc qe H locs ls hE hP hD hS hl e
    rw [pf_L_rights_100] at e
    have hP : va_P D vwCl ((kv_lw ci la lm lp lr lq) ++ (kv_kw ci ad kc kh ks fo kl kp dy mo n pa aE qp qm ql qv qc qe mt mv sw hv tk tn sc)) H := hP
    have hD : va_D A ((kv_lw ci la lm lp lr lq) ++ (kv_kw ci ad kc kh ks fo kl kp dy mo n pa aE qp qm ql qv qc qe mt mv sw hv tk tn sc)) := hD
    refine kv_calliF (va_runS (As := [.int z3, .int z4]) (rest := [.int z2, .int z1, .ref (la 2)]) ⟨hx, hb, hml, hown, hts⟩ (c_L_low l D ci la lm lp lr lq z3 z4 (kv_q1_n e hRz) H.size) (va_cwS 2 hts gL_rights_L_low rfl rfl rfl (by decide +kernel) ⟨Nat.le_of_ble_eq_true rfl, Nat.le_of_ble_eq_true rfl⟩) (kv_preS hK (kv_Pl hP) (kv_Dl hD)) rfl rfl hl.1 rfl (lv_room (Nat.le_of_ble_eq_true rfl)) dL_rights_100 ⟨Nat.le_of_ble_eq_true rfl, Nat.le_of_ble_eq_true rfl⟩) hP hD hS hA (fun r_100 u_100 H locs hw_100 hP hD hS => ?_)
    have e := kv_q1_e e hw_100
    have hP : va_P D vwCl (kv_lkw ci la ad lm lp lr lq kc kh ks fo kl kp dy mo n pa aE qp qm ql qv qc qe mt mv sw hv tk tn sc) H := hP
    have hD : va_D A (kv_lkw ci la ad lm lp lr lq kc kh ks fo kl kp dy mo n pa aE qp qm ql qv qc qe mt mv sw hv tk tn sc) := hD
    refine lv_iadd hx hb dL_rights_103 ?_
    obtain ⟨hi_104, e⟩ := kv_G_e e hRz
    refine kv_iast hx hb hK hP hD hS 2 0 (fun g_104 => (kv_lkw ci la ad lm lp g_104 lq kc kh ks fo kl kp dy mo n pa aE qp qm ql qv qc qe mt mv sw hv tk tn sc)) hi_104 dL_rights_104 rfl rfl (fun _ => rfl) (fun g_104 H locs eg_104 hP hD hS => ?_)
    have e := kv_T_e e eg_104
    refine lv_aload hx hb dL_rights_105 (lv_at hl 3 rfl) ?_
    refine lv_iload hx hb dL_rights_107 (lv_at hl 5 rfl) ?_
    refine lv_iconst (v := 3) hx hb dL_rights_109 (by decide) ?_
    refine lv_iadd hx hb dL_rights_110 ?_
    refine lv_iconst (v := 0) hx hb dL_rights_111 (by decide) ?_
    obtain ⟨hi_112, e⟩ := kv_G_e e hRz
    refine kv_iast hx hb hK hP hD hS 2 0 (fun g_112 => (kv_lkw ci la ad lm lp g_112 lq kc kh ks fo kl kp dy mo n pa aE qp qm ql qv qc qe mt mv sw hv tk tn sc)) hi_112 dL_rights_112 rfl rfl (fun _ => rfl) (fun g_112 H locs eg_112 hP hD hS => ?_)
    have e := kv_T_e e eg_112
    refine lv_aload hx hb dL_rights_113 (lv_at hl 3 rfl) ?_
    refine lv_iload hx hb dL_rights_115 (lv_at hl 5 rfl) ?_
    refine lv_iconst (v := 4) hx hb dL_rights_117 (by decide) ?_
    refine lv_iadd hx hb dL_rights_118 ?_
    refine lv_aload_n hx hb dL_rights_119 rfl (lv_at hl 2 rfl) ?_
    refine lv_iconst (v := 2) hx hb dL_rights_120 (by decide) ?_
    refine lv_aload hx hb dL_rights_121 (lv_at hl 3 rfl) ?_
    refine lv_iload hx hb dL_rights_123 (lv_at hl 5 rfl) ?_
    obtain ⟨hi_125, e⟩ := kv_G_e e hRz
    refine kv_iald hx hb hK hP 2 0 hi_125 dL_rights_125 rfl rfl (fun y_125 ey_125 => ?_)
    have e := kv_T_e e ey_125
    refine lv_imul hx hb dL_rights_126 ?_
    obtain ⟨hi_127, e⟩ := kv_G_e e hRz
    refine kv_iald hx hb hK hP 1 0 hi_127 dL_rights_127 rfl rfl (fun y_127 ey_127 => ?_)
    have e := kv_T_e e ey_127
    obtain ⟨hi_128, e⟩ := kv_G_e e hRz
    refine kv_iast hx hb hK hP hD hS 2 0 (fun g_128 => (kv_lkw ci la ad lm lp g_128 lq kc kh ks fo kl kp dy mo n pa aE qp qm ql qv qc qe mt mv sw hv tk tn sc)) hi_128 dL_rights_128 rfl rfl (fun _ => rfl) (fun g_128 H locs eg_128 hP hD hS => ?_)
    have e := kv_T_e e eg_128
    refine lv_iload_n hx hb dL_rights_129 rfl (lv_at hl 1 rfl) ?_
    refine lv_bipush (v := 6) hx hb dL_rights_130 (by decide) ?_
    refine lv_ishr hx hb dL_rights_132 ?_
    refine lv_bipush (v := 40) hx hb dL_rights_133 (by decide) ?_
    have hP : va_P D vwCl ((kv_lw ci la lm lp g_128 lq) ++ (kv_kw ci ad kc kh ks fo kl kp dy mo n pa aE qp qm ql qv qc qe mt mv sw hv tk tn sc)) H := hP
    have hD : va_D A ((kv_lw ci la lm lp g_128 lq) ++ (kv_kw ci ad kc kh ks fo kl kp dy mo n pa aE qp qm ql qv qc qe mt mv sw hv tk tn sc)) := hD
    refine kv_calliF (va_runS (As := [.int (p2 >>> (6 &&& 31)), .int 40]) (rest := []) ⟨hx, hb, hml, hown, hts⟩ (c_L_low l D ci la lm lp g_128 lq (p2 >>> (6 &&& 31)) 40 (kv_q1_n e hRz) H.size) (va_cwS 2 hts gL_rights_L_low rfl rfl rfl (by decide +kernel) ⟨Nat.le_of_ble_eq_true rfl, Nat.le_of_ble_eq_true rfl⟩) (kv_preS hK (kv_Pl hP) (kv_Dl hD)) rfl rfl hl.1 rfl (lv_room (Nat.le_of_ble_eq_true rfl)) dL_rights_135 ⟨Nat.le_of_ble_eq_true rfl, Nat.le_of_ble_eq_true rfl⟩) hP hD hS hA (fun r_135 u_135 H locs hw_135 hP hD hS => ?_)
    have e := kv_q1_e e hw_135
    have hP : va_P D vwCl (kv_lkw ci la ad lm lp g_128 lq kc kh ks fo kl kp dy mo n pa aE qp qm ql qv qc qe mt mv sw hv tk tn sc) H := hP
    have hD : va_D A (kv_lkw ci la ad lm lp g_128 lq kc kh ks fo kl kp dy mo n pa aE qp qm ql qv qc qe mt mv sw hv tk tn sc) := hD
    refine lv_istore (lv' := [(8, .int r_135), (0, .ref (ad 0)), (2, .int p2), (3, .ref (la 1)), (4, .ref (la 2)), (5, .ref (la 3)), (7, .int x7)]) hx hb dL_rights_138 hl (by decide) rfl (fun ls hl => ?_)
    refine lv_aload hx hb dL_rights_140 (lv_at hl 4 rfl) ?_
    refine lv_iload hx hb dL_rights_142 (lv_at hl 6 rfl) ?_
    refine lv_iconst (v := 5) hx hb dL_rights_144 (by decide) ?_
    refine lv_iadd hx hb dL_rights_145 ?_
    refine lv_aload hx hb dL_rights_146 (lv_at hl 5 rfl) ?_
    refine lv_iconst (v := 0) hx hb dL_rights_148 (by decide) ?_
    obtain ⟨hi_149, e⟩ := kv_G_e e hRz
    refine kv_iald hx hb hK hP 3 0 hi_149 dL_rights_149 rfl rfl (fun y_149 ey_149 => ?_)
    have e := kv_T_e e ey_149
    refine lv_iload hx hb dL_rights_150 (lv_at hl 0 rfl) ?_
    refine lv_iadd hx hb dL_rights_152 ?_
    refine lv_iconst (v := 1) hx hb dL_rights_153 (by decide) ?_
    refine lv_isub hx hb dL_rights_154 ?_
    obtain ⟨hi_155, e⟩ := kv_G_e e hRz
    refine kv_iast hx hb hK hP hD hS 2 0 (fun g_155 => (kv_lkw ci la ad lm lp g_155 lq kc kh ks fo kl kp dy mo n pa aE qp qm ql qv qc qe mt mv sw hv tk tn sc)) hi_155 dL_rights_155 rfl rfl (fun _ => rfl) (fun g_155 H locs eg_155 hP hD hS => ?_)
    have e := kv_T_e e eg_155
    refine lv_aload hx hb dL_rights_156 (lv_at hl 5 rfl) ?_
    refine lv_iconst (v := 1) hx hb dL_rights_158 (by decide) ?_
    refine lv_dup2_11 hx hb dL_rights_159 rfl rfl ?_
    obtain ⟨hi_160, e⟩ := kv_G_e e hRz
    refine kv_iald hx hb hK hP 3 0 hi_160 dL_rights_160 rfl rfl (fun y_160 ey_160 => ?_)
    have e := kv_T_e e ey_160
    refine lv_iconst (v := 1) hx hb dL_rights_161 (by decide) ?_
    refine lv_iadd hx hb dL_rights_162 ?_
    obtain ⟨hi_163, e⟩ := kv_G_e e hRz
    refine kv_iast hx hb hK hP hD hS 3 0 (fun g_163 => (kv_lkw ci la ad lm lp g_155 g_163 kc kh ks fo kl kp dy mo n pa aE qp qm ql qv qc qe mt mv sw hv tk tn sc)) hi_163 dL_rights_163 rfl rfl (fun _ => rfl) (fun g_163 H locs eg_163 hP hD hS => ?_)
    have e := kv_T_e e eg_163
    refine lv_aload_n hx hb dL_rights_164 rfl (lv_at hl 1 rfl) ?_
    refine lv_iconst (v := 2) hx hb dL_rights_165 (by decide) ?_
    refine lv_aload hx hb dL_rights_166 (lv_at hl 4 rfl) ?_
    refine lv_iload hx hb dL_rights_168 (lv_at hl 6 rfl) ?_
    obtain ⟨hi_170, e⟩ := kv_G_e e hRz
    refine kv_iald hx hb hK hP 2 0 hi_170 dL_rights_170 rfl rfl (fun y_170 ey_170 => ?_)
    have e := kv_T_e e ey_170
    refine lv_aload hx hb dL_rights_171 (lv_at hl 4 rfl) ?_
    refine lv_iload hx hb dL_rights_173 (lv_at hl 6 rfl) ?_
    refine lv_iconst (v := 1) hx hb dL_rights_175 (by decide) ?_
    refine lv_iadd hx hb dL_rights_176 ?_
    obtain ⟨hi_177, e⟩ := kv_G_e e hRz
    refine kv_iald hx hb hK hP 2 0 hi_177 dL_rights_177 rfl rfl (fun y_177 ey_177 => ?_)
    have e := kv_T_e e ey_177
    refine lv_aload hx hb dL_rights_178 (lv_at hl 4 rfl) ?_
    refine lv_iload hx hb dL_rights_180 (lv_at hl 6 rfl) ?_
    refine lv_iconst (v := 2) hx hb dL_rights_182 (by decide) ?_
    refine lv_iadd hx hb dL_rights_183 ?_
    obtain ⟨hi_184, e⟩ := kv_G_e e hRz
    refine kv_iald hx hb hK hP 2 0 hi_184 dL_rights_184 rfl rfl (fun y_184 ey_184 => ?_)
    have e := kv_T_e e ey_184
    refine lv_iload hx hb dL_rights_185 (lv_at hl 0 rfl) ?_
    have hP : va_P D vwCl ((kv_kw ci ad kc kh ks fo kl kp dy mo n pa aE qp qm ql qv qc qe mt mv sw hv tk tn sc) ++ (kv_lw ci la lm lp g_155 g_163)) H := kv_commP hP
    have hD : va_D A ((kv_kw ci ad kc kh ks fo kl kp dy mo n pa aE qp qm ql qv qc qe mt mv sw hv tk tn sc) ++ (kv_lw ci la lm lp g_155 g_163)) := kv_commD hD
    refine kv_calliF (vx_runSW (As := [.ref (ad 0), .int 2, .int y_170, .int y_177, .int y_184, .int r_135]) (rest := []) ⟨hx, hb, hml, hown, hts⟩ (c_L_calls_2 l hl9 D ci ad aS kc kh ks fo kl kp dy mo n pa aE qp qm ql qv qc qe mt mv sw hv tk tn sc y_170 y_177 y_184 r_135 hE (kv_q9_n e hRz) H.size) (vx_cwSW 6 hts gL_rights_L_calls rfl rfl rfl (by decide +kernel) ⟨Nat.le_of_ble_eq_true rfl, Nat.le_of_ble_eq_true rfl⟩) (kv_preSW hK (kv_Pl hP) (kv_Dl hD) hT hT2 hN hS hA) rfl rfl hl.1 rfl (lv_room (Nat.le_of_ble_eq_true rfl)) dL_rights_187 ⟨Nat.le_of_ble_eq_true rfl, Nat.le_of_ble_eq_true rfl⟩) hP hD hS hA (fun r_187 u_187 H locs hw_187 hP hD hS => ?_)
    obtain ⟨o0_187, o1_187, o2_187, o3_187, o4_187, o5_187, o6_187, o7_187, o8_187, o9_187⟩ := u_187
    obtain ⟨hw_187, hE⟩ := hw_187
    have e := kv_q9_e e hw_187
    have hP : va_P D vwCl (kv_lkw ci la ad lm lp g_155 g_163 kc kh ks fo kl kp dy o0_187 o1_187 o8_187 o9_187 o2_187 o3_187 o4_187 o5_187 o6_187 o7_187 mt mv sw hv tk tn sc) H := kv_commP hP
    have hD : va_D A (kv_lkw ci la ad lm lp g_155 g_163 kc kh ks fo kl kp dy o0_187 o1_187 o8_187 o9_187 o2_187 o3_187 o4_187 o5_187 o6_187 o7_187 mt mv sw hv tk tn sc) := kv_commD hD
    refine lv_aload hx hb dL_rights_190 (lv_at hl 5 rfl) ?_
    refine lv_iconst (v := 1) hx hb dL_rights_192 (by decide) ?_
    obtain ⟨hi_193, e⟩ := kv_G_e e hRz
    refine kv_iald hx hb hK hP 3 0 hi_193 dL_rights_193 rfl rfl (fun y_193 ey_193 => ?_)
    have e := kv_T_e e ey_193
    refine lv_iconst (v := 1) hx hb dL_rights_194 (by decide) ?_
    refine lv_isub hx hb dL_rights_195 ?_
    refine lv_icmp_ne (tgt := 203) hx hb dL_rights_196 (by decide) (fun c_196 => ?_) (fun c_196 => ?_)
    · have e := e.trans (if_neg c_196)
      refine lv_iconst (v := 0) hx hb dL_rights_203 (by decide) ?_
      rw [hQ]
      exact W.zret (v := 0) hx hb hr (by decide +kernel) (fun t ht hW => ⟨⟨0, (g_155, g_163, o0_187, o1_187, o2_187, o3_187, o4_187, o5_187, o6_187, o7_187, o8_187, o9_187), rfl, ⟨e, hE⟩, ⟨by rw [ht]; exact hP, by rw [hAe]; exact hD⟩⟩, hS.F ht⟩) hS.2.2 dL_rights_204
    · have e := e.trans (if_pos c_196)
      refine lv_iconst (v := 1) hx hb dL_rights_199 (by decide) ?_
      refine lv_goto (tgt := 204) hx hb dL_rights_200 (by decide) ?_
      rw [hQ]
      exact W.zret (v := 1) hx hb hr (by decide +kernel) (fun t ht hW => ⟨⟨1, (g_155, g_163, o0_187, o1_187, o2_187, o3_187, o4_187, o5_187, o6_187, o7_187, o8_187, o9_187), rfl, ⟨e, hE⟩, ⟨by rw [ht]; exact hP, by rw [hAe]; exact hD⟩⟩, hS.F ht⟩) hS.2.2 dL_rights_204
  have hb_398 : ∀ (x6 : Int32) (x7 : Int32) (x10 : Int32) (lr : Nat → Int32) (lq : Nat → Int32) (mo : Int32) (n : Nat) (qp : Nat → Int32) (qm : Nat → Int32) (ql : Nat → Int32) (qv : Nat → Int32) (qc : Nat → Int32) (qe : Nat → Int32) (H : Heap) (locs : List Loc) (ls : Array Slot), (n = 0 → aE = aS) → va_P D vwCl (kv_lkw ci la ad lm lp lr lq kc kh ks fo kl kp dy mo n pa aE qp qm ql qv qc qe mt mv sw hv tk tn sc) H → va_D A (kv_lkw ci la ad lm lp lr lq kc kh ks fo kl kp dy mo n pa aE qp qm ql qv qc qe mt mv sw hv tk tn sc) → va_S A s.heap H locs → lv_has ls 12 [(0, .ref (ad 0)), (6, .int x6), (7, .int x7), (10, .int x10)] → Rz = pf_L_rights_398 lp kl dy p1 p2  x6 x7 x10 lr lq mo n qp qm ql qv qc qe → W p l en rmL_rights s m args below meth c H locs 0 0 Q (F0 m 398 ls []) := by
    intro x6 x7 x10 lr lq mo n qp qm ql qv qc qe H locs ls hE hP hD hS hl e
    rw [pf_L_rights_398] at e
    refine lv_aload_n hx hb dL_rights_398 rfl (lv_at hl 0 rfl) ?_
    refine lv_iconst (v := 3) hx hb dL_rights_399 (by decide) ?_
    refine lv_iload hx hb dL_rights_400 (lv_at hl 1 rfl) ?_
    refine lv_iload hx hb dL_rights_402 (lv_at hl 2 rfl) ?_
    refine lv_iconst (v := 0) hx hb dL_rights_404 (by decide) ?_
    refine lv_iconst (v := 0) hx hb dL_rights_405 (by decide) ?_
    have hP : va_P D vwCl ((kv_kw ci ad kc kh ks fo kl kp dy mo n pa aE qp qm ql qv qc qe mt mv sw hv tk tn sc) ++ (kv_lw ci la lm lp lr lq)) H := kv_commP hP
    have hD : va_D A ((kv_kw ci ad kc kh ks fo kl kp dy mo n pa aE qp qm ql qv qc qe mt mv sw hv tk tn sc) ++ (kv_lw ci la lm lp lr lq)) := kv_commD hD
    refine kv_calliF (vx_runSW (As := [.ref (ad 0), .int 3, .int x6, .int x7, .int 0, .int 0]) (rest := []) ⟨hx, hb, hml, hown, hts⟩ (c_L_calls_3 l hl9 D ci ad aS kc kh ks fo kl kp dy mo n pa aE qp qm ql qv qc qe mt mv sw hv tk tn sc x6 x7 0 0 hE (kv_q9_n e hRz) H.size) (vx_cwSW 6 hts gL_rights_L_calls rfl rfl rfl (by decide +kernel) ⟨Nat.le_of_ble_eq_true rfl, Nat.le_of_ble_eq_true rfl⟩) (kv_preSW hK (kv_Pl hP) (kv_Dl hD) hT hT2 hN hS hA) rfl rfl hl.1 rfl (lv_room (Nat.le_of_ble_eq_true rfl)) dL_rights_406 ⟨Nat.le_of_ble_eq_true rfl, Nat.le_of_ble_eq_true rfl⟩) hP hD hS hA (fun r_406 u_406 H locs hw_406 hP hD hS => ?_)
    obtain ⟨o0_406, o1_406, o2_406, o3_406, o4_406, o5_406, o6_406, o7_406, o8_406, o9_406⟩ := u_406
    obtain ⟨hw_406, hE⟩ := hw_406
    have e := kv_q9_e e hw_406
    have hP : va_P D vwCl (kv_lkw ci la ad lm lp lr lq kc kh ks fo kl kp dy o0_406 o1_406 o8_406 o9_406 o2_406 o3_406 o4_406 o5_406 o6_406 o7_406 mt mv sw hv tk tn sc) H := kv_commP hP
    have hD : va_D A (kv_lkw ci la ad lm lp lr lq kc kh ks fo kl kp dy o0_406 o1_406 o8_406 o9_406 o2_406 o3_406 o4_406 o5_406 o6_406 o7_406 mt mv sw hv tk tn sc) := kv_commD hD
    refine lv_iload hx hb dL_rights_409 (lv_at hl 3 rfl) ?_
    refine lv_icmp_ne (tgt := 418) hx hb dL_rights_411 (by decide) (fun c_411 => ?_) (fun c_411 => ?_)
    · have e := e.trans (if_neg c_411)
      refine lv_iconst (v := 0) hx hb dL_rights_418 (by decide) ?_
      rw [hQ]
      refine W.widen (k := 7) (n := 51) (Nat.le_of_ble_eq_true rfl) (Nat.le_of_ble_eq_true rfl) ?_
      exact W.zret (v := 0) hx hb hr (by decide +kernel) (fun t ht hW => ⟨⟨0, (lr, lq, o0_406, o1_406, o2_406, o3_406, o4_406, o5_406, o6_406, o7_406, o8_406, o9_406), rfl, ⟨e, hE⟩, ⟨by rw [ht]; exact hP, by rw [hAe]; exact hD⟩⟩, hS.F ht⟩) hS.2.2 dL_rights_419
    · have e := e.trans (if_pos c_411)
      refine lv_iconst (v := 1) hx hb dL_rights_414 (by decide) ?_
      refine lv_goto (tgt := 419) hx hb dL_rights_415 (by decide) ?_
      rw [hQ]
      refine W.widen (k := 7) (n := 51) (Nat.le_of_ble_eq_true rfl) (Nat.le_of_ble_eq_true rfl) ?_
      exact W.zret (v := 1) hx hb hr (by decide +kernel) (fun t ht hW => ⟨⟨1, (lr, lq, o0_406, o1_406, o2_406, o3_406, o4_406, o5_406, o6_406, o7_406, o8_406, o9_406), rfl, ⟨e, hE⟩, ⟨by rw [ht]; exact hP, by rw [hAe]; exact hD⟩⟩, hS.F ht⟩) hS.2.2 dL_rights_419
  have hb_291 : ∀ (x6 : Int32) (x7 : Int32) (x8 : Int32) (x9 : Int32) (z0 : Int32) (lr : Nat → Int32) (lq : Nat → Int32) (mo : Int32) (n : Nat) (qp : Nat → Int32) (qm : Nat → Int32) (ql : Nat → Int32) (qv : Nat → Int32) (qc : Nat → Int32) (qe : Nat → Int32) (H : Heap) (locs : List Loc) (ls : Array Slot), (n = 0 → aE = aS) → va_P D vwCl (kv_lkw ci la ad lm lp lr lq kc kh ks fo kl kp dy mo n pa aE qp qm ql qv qc qe mt mv sw hv tk tn sc) H → va_D A (kv_lkw ci la ad lm lp lr lq kc kh ks fo kl kp dy mo n pa aE qp qm ql qv qc qe mt mv sw hv tk tn sc) → va_S A s.heap H locs → lv_has ls 12 [(0, .ref (ad 0)), (3, .ref (la 1)), (4, .ref (la 2)), (5, .ref (la 3)), (6, .int x6), (7, .int x7), (8, .int x8), (9, .int x9)] → Rz = pf_L_rights_291 lp kl dy p1 p2  x6 x7 x8 x9 z0 lr lq mo n qp qm ql qv qc qe → W p l en rmL_rights s m args below meth c H locs 0 0 Q (F0 m 291 ls [.int z0]) := by
    intro x6 x7 x8 x9 z0 lr lq mo n qp qm ql qv qc qe H locs ls hE hP hD hS hl e
    rw [pf_L_rights_291] at e
    refine lv_istore (lv' := [(10, .int z0), (0, .ref (ad 0)), (3, .ref (la 1)), (4, .ref (la 2)), (5, .ref (la 3)), (6, .int x6), (7, .int x7), (8, .int x8), (9, .int x9)]) hx hb dL_rights_291 hl (by decide) rfl (fun ls hl => ?_)
    refine lv_iload hx hb dL_rights_293 (lv_at hl 8 rfl) ?_
    refine lv_if_eq (tgt := 398) hx hb dL_rights_295 (by decide) (fun c_295 => ?_) (fun c_295 => ?_)
    · have e := e.trans (if_pos c_295)
      exact hb_398 x6 x7 z0 lr lq mo n qp qm ql qv qc qe _ _ _ hE hP hD hS (lv_sub hl [1, 5, 6, 0] rfl) e
    · have e := e.trans (if_neg c_295)
      refine lv_bipush (v := 6) hx hb dL_rights_298 (by decide) ?_
      refine lv_aload hx hb dL_rights_300 (lv_at hl 4 rfl) ?_
      refine lv_iconst (v := 1) hx hb dL_rights_302 (by decide) ?_
      obtain ⟨hi_303, e⟩ := kv_G_e e hRz
      refine kv_iald hx hb hK hP 3 0 hi_303 dL_rights_303 rfl rfl (fun y_303 ey_303 => ?_)
      have e := kv_T_e e ey_303
      refine lv_imul hx hb dL_rights_304 ?_
      refine lv_topi (fun y_305 ey_305 => ?_)
      have e := kv_T_e e ey_305
      refine lv_istore (lv' := [(11, .int y_305), (10, .int z0), (0, .ref (ad 0)), (3, .ref (la 1)), (4, .ref (la 2)), (5, .ref (la 3)), (6, .int x6), (7, .int x7), (8, .int x8), (9, .int x9)]) hx hb dL_rights_305 hl (by decide) rfl (fun ls hl => ?_)
      refine lv_aload hx hb dL_rights_307 (lv_at hl 4 rfl) ?_
      refine lv_iload hx hb dL_rights_309 (lv_at hl 8 rfl) ?_
      refine lv_iconst (v := 2) hx hb dL_rights_311 (by decide) ?_
      refine lv_iadd hx hb dL_rights_312 ?_
      refine lv_topi (fun y_313 ey_313 => ?_)
      have e := kv_T_e e ey_313
      refine lv_dup2_11 hx hb dL_rights_313 rfl rfl ?_
      obtain ⟨hi_314, e⟩ := kv_G_e e hRz
      refine kv_iald hx hb hK hP 2 0 hi_314 dL_rights_314 rfl rfl (fun y_314 ey_314 => ?_)
      have e := kv_T_e e ey_314
      refine lv_iload hx hb dL_rights_315 (lv_at hl 7 rfl) ?_
      refine lv_isub hx hb dL_rights_317 ?_
      obtain ⟨hi_318, e⟩ := kv_G_e e hRz
      refine kv_iast hx hb hK hP hD hS 2 0 (fun g_318 => (kv_lkw ci la ad lm lp g_318 lq kc kh ks fo kl kp dy mo n pa aE qp qm ql qv qc qe mt mv sw hv tk tn sc)) hi_318 dL_rights_318 rfl rfl (fun _ => rfl) (fun g_318 H locs eg_318 hP hD hS => ?_)
      have e := kv_T_e e eg_318
      refine lv_aload hx hb dL_rights_319 (lv_at hl 4 rfl) ?_
      refine lv_iload hx hb dL_rights_321 (lv_at hl 0 rfl) ?_
      refine lv_aload hx hb dL_rights_323 (lv_at hl 4 rfl) ?_
      refine lv_iload hx hb dL_rights_325 (lv_at hl 8 rfl) ?_
      obtain ⟨hi_327, e⟩ := kv_G_e e hRz
      refine kv_iald hx hb hK hP 2 0 hi_327 dL_rights_327 rfl rfl (fun y_327 ey_327 => ?_)
      have e := kv_T_e e ey_327
      obtain ⟨hi_328, e⟩ := kv_G_e e hRz
      refine kv_iast hx hb hK hP hD hS 2 0 (fun g_328 => (kv_lkw ci la ad lm lp g_328 lq kc kh ks fo kl kp dy mo n pa aE qp qm ql qv qc qe mt mv sw hv tk tn sc)) hi_328 dL_rights_328 rfl rfl (fun _ => rfl) (fun g_328 H locs eg_328 hP hD hS => ?_)
      have e := kv_T_e e eg_328
      refine lv_aload hx hb dL_rights_329 (lv_at hl 4 rfl) ?_
      refine lv_iload hx hb dL_rights_331 (lv_at hl 0 rfl) ?_
      refine lv_iconst (v := 1) hx hb dL_rights_333 (by decide) ?_
      refine lv_iadd hx hb dL_rights_334 ?_
      refine lv_aload hx hb dL_rights_335 (lv_at hl 4 rfl) ?_
      refine lv_iload hx hb dL_rights_337 (lv_at hl 8 rfl) ?_
      refine lv_iconst (v := 1) hx hb dL_rights_339 (by decide) ?_
      refine lv_iadd hx hb dL_rights_340 ?_
      obtain ⟨hi_341, e⟩ := kv_G_e e hRz
      refine kv_iald hx hb hK hP 2 0 hi_341 dL_rights_341 rfl rfl (fun y_341 ey_341 => ?_)
      have e := kv_T_e e ey_341
      obtain ⟨hi_342, e⟩ := kv_G_e e hRz
      refine kv_iast hx hb hK hP hD hS 2 0 (fun g_342 => (kv_lkw ci la ad lm lp g_342 lq kc kh ks fo kl kp dy mo n pa aE qp qm ql qv qc qe mt mv sw hv tk tn sc)) hi_342 dL_rights_342 rfl rfl (fun _ => rfl) (fun g_342 H locs eg_342 hP hD hS => ?_)
      have e := kv_T_e e eg_342
      refine lv_aload hx hb dL_rights_343 (lv_at hl 4 rfl) ?_
      refine lv_iload hx hb dL_rights_345 (lv_at hl 0 rfl) ?_
      refine lv_iconst (v := 2) hx hb dL_rights_347 (by decide) ?_
      refine lv_iadd hx hb dL_rights_348 ?_
      refine lv_iload hx hb dL_rights_349 (lv_at hl 7 rfl) ?_
      obtain ⟨hi_351, e⟩ := kv_G_e e hRz
      refine kv_iast hx hb hK hP hD hS 2 0 (fun g_351 => (kv_lkw ci la ad lm lp g_351 lq kc kh ks fo kl kp dy mo n pa aE qp qm ql qv qc qe mt mv sw hv tk tn sc)) hi_351 dL_rights_351 rfl rfl (fun _ => rfl) (fun g_351 H locs eg_351 hP hD hS => ?_)
      have e := kv_T_e e eg_351
      refine lv_aload hx hb dL_rights_352 (lv_at hl 4 rfl) ?_
      refine lv_iload hx hb dL_rights_354 (lv_at hl 0 rfl) ?_
      refine lv_iconst (v := 3) hx hb dL_rights_356 (by decide) ?_
      refine lv_iadd hx hb dL_rights_357 ?_
      refine lv_iconst (v := 0) hx hb dL_rights_358 (by decide) ?_
      obtain ⟨hi_359, e⟩ := kv_G_e e hRz
      refine kv_iast hx hb hK hP hD hS 2 0 (fun g_359 => (kv_lkw ci la ad lm lp g_359 lq kc kh ks fo kl kp dy mo n pa aE qp qm ql qv qc qe mt mv sw hv tk tn sc)) hi_359 dL_rights_359 rfl rfl (fun _ => rfl) (fun g_359 H locs eg_359 hP hD hS => ?_)
      have e := kv_T_e e eg_359
      refine lv_aload hx hb dL_rights_360 (lv_at hl 4 rfl) ?_
      refine lv_iload hx hb dL_rights_362 (lv_at hl 0 rfl) ?_
      refine lv_iconst (v := 4) hx hb dL_rights_364 (by decide) ?_
      refine lv_iadd hx hb dL_rights_365 ?_
      refine lv_aload_n hx hb dL_rights_366 rfl (lv_at hl 3 rfl) ?_
      refine lv_iconst (v := 2) hx hb dL_rights_367 (by decide) ?_
      refine lv_aload hx hb dL_rights_368 (lv_at hl 4 rfl) ?_
      refine lv_iload hx hb dL_rights_370 (lv_at hl 8 rfl) ?_
      obtain ⟨hi_372, e⟩ := kv_G_e e hRz
      refine kv_iald hx hb hK hP 2 0 hi_372 dL_rights_372 rfl rfl (fun y_372 ey_372 => ?_)
      have e := kv_T_e e ey_372
      refine lv_imul hx hb dL_rights_373 ?_
      obtain ⟨hi_374, e⟩ := kv_G_e e hRz
      refine kv_iald hx hb hK hP 1 0 hi_374 dL_rights_374 rfl rfl (fun y_374 ey_374 => ?_)
      have e := kv_T_e e ey_374
      obtain ⟨hi_375, e⟩ := kv_G_e e hRz
      refine kv_iast hx hb hK hP hD hS 2 0 (fun g_375 => (kv_lkw ci la ad lm lp g_375 lq kc kh ks fo kl kp dy mo n pa aE qp qm ql qv qc qe mt mv sw hv tk tn sc)) hi_375 dL_rights_375 rfl rfl (fun _ => rfl) (fun g_375 H locs eg_375 hP hD hS => ?_)
      have e := kv_T_e e eg_375
      refine lv_aload hx hb dL_rights_376 (lv_at hl 4 rfl) ?_
      refine lv_iload hx hb dL_rights_378 (lv_at hl 0 rfl) ?_
      refine lv_iconst (v := 5) hx hb dL_rights_380 (by decide) ?_
      refine lv_iadd hx hb dL_rights_381 ?_
      refine lv_aload hx hb dL_rights_382 (lv_at hl 4 rfl) ?_
      refine lv_iload hx hb dL_rights_384 (lv_at hl 8 rfl) ?_
      refine lv_iconst (v := 5) hx hb dL_rights_386 (by decide) ?_
      refine lv_iadd hx hb dL_rights_387 ?_
      obtain ⟨hi_388, e⟩ := kv_G_e e hRz
      refine kv_iald hx hb hK hP 2 0 hi_388 dL_rights_388 rfl rfl (fun y_388 ey_388 => ?_)
      have e := kv_T_e e ey_388
      obtain ⟨hi_389, e⟩ := kv_G_e e hRz
      refine kv_iast hx hb hK hP hD hS 2 0 (fun g_389 => (kv_lkw ci la ad lm lp g_389 lq kc kh ks fo kl kp dy mo n pa aE qp qm ql qv qc qe mt mv sw hv tk tn sc)) hi_389 dL_rights_389 rfl rfl (fun _ => rfl) (fun g_389 H locs eg_389 hP hD hS => ?_)
      have e := kv_T_e e eg_389
      refine lv_aload hx hb dL_rights_390 (lv_at hl 5 rfl) ?_
      refine lv_iconst (v := 1) hx hb dL_rights_392 (by decide) ?_
      refine lv_dup2_11 hx hb dL_rights_393 rfl rfl ?_
      obtain ⟨hi_394, e⟩ := kv_G_e e hRz
      refine kv_iald hx hb hK hP 3 0 hi_394 dL_rights_394 rfl rfl (fun y_394 ey_394 => ?_)
      have e := kv_T_e e ey_394
      refine lv_iconst (v := 1) hx hb dL_rights_395 (by decide) ?_
      refine lv_iadd hx hb dL_rights_396 ?_
      obtain ⟨hi_397, e⟩ := kv_G_e e hRz
      refine kv_iast hx hb hK hP hD hS 3 0 (fun g_397 => (kv_lkw ci la ad lm lp g_389 g_397 kc kh ks fo kl kp dy mo n pa aE qp qm ql qv qc qe mt mv sw hv tk tn sc)) hi_397 dL_rights_397 rfl rfl (fun _ => rfl) (fun g_397 H locs eg_397 hP hD hS => ?_)
      have e := kv_T_e e eg_397
      exact hb_398 x6 x7 z0 g_389 g_397 mo n qp qm ql qv qc qe _ _ _ hE hP hD hS (lv_sub hl [2, 6, 7, 1] rfl) e
  have hb_274 : ∀ (x6 : Int32) (x7 : Int32) (x8 : Int32) (z0 : Int32) (lr : Nat → Int32) (lq : Nat → Int32) (mo : Int32) (n : Nat) (qp : Nat → Int32) (qm : Nat → Int32) (ql : Nat → Int32) (qv : Nat → Int32) (qc : Nat → Int32) (qe : Nat → Int32) (H : Heap) (locs : List Loc) (ls : Array Slot), (n = 0 → aE = aS) → va_P D vwCl (kv_lkw ci la ad lm lp lr lq kc kh ks fo kl kp dy mo n pa aE qp qm ql qv qc qe mt mv sw hv tk tn sc) H → va_D A (kv_lkw ci la ad lm lp lr lq kc kh ks fo kl kp dy mo n pa aE qp qm ql qv qc qe mt mv sw hv tk tn sc) → va_S A s.heap H locs → lv_has ls 12 [(0, .ref (ad 0)), (3, .ref (la 1)), (4, .ref (la 2)), (5, .ref (la 3)), (6, .int x6), (7, .int x7), (8, .int x8)] → Rz = pf_L_rights_274 lp kl dy p1 p2  x6 x7 x8 z0 lr lq mo n qp qm ql qv qc qe → W p l en rmL_rights s m args below meth c H locs 0 0 Q (F0 m 274 ls [.int z0]) := by
    intro x6 x7 x8 z0 lr lq mo n qp qm ql qv qc qe H locs ls hE hP hD hS hl e
    rw [pf_L_rights_274] at e
    refine lv_istore (lv' := [(9, .int z0), (0, .ref (ad 0)), (3, .ref (la 1)), (4, .ref (la 2)), (5, .ref (la 3)), (6, .int x6), (7, .int x7), (8, .int x8)]) hx hb dL_rights_274 hl (by decide) rfl (fun ls hl => ?_)
    refine lv_iload hx hb dL_rights_276 (lv_at hl 0 rfl) ?_
    refine lv_if_eq (tgt := 288) hx hb dL_rights_278 (by decide) (fun c_278 => ?_) (fun c_278 => ?_)
    · have e := e.trans (if_pos c_278)
      refine lv_sipush (v := (-2003)) hx hb dL_rights_288 (by decide) ?_
      exact hb_291 x6 x7 x8 z0 (-2003) lr lq mo n qp qm ql qv qc qe _ _ _ hE hP hD hS (lv_sub hl [1, 2, 3, 4, 5, 6, 7, 0] rfl) e
    · have e := e.trans (if_neg c_278)
      refine lv_aload hx hb dL_rights_281 (lv_at hl 4 rfl) ?_
      refine lv_iconst (v := 1) hx hb dL_rights_283 (by decide) ?_
      obtain ⟨hi_284, e⟩ := kv_G_e e hRz
      refine kv_iald hx hb hK hP 3 0 hi_284 dL_rights_284 rfl rfl (fun y_284 ey_284 => ?_)
      have e := kv_T_e e ey_284
      refine lv_goto (tgt := 291) hx hb dL_rights_285 (by decide) ?_
      exact hb_291 x6 x7 x8 z0 y_284 lr lq mo n qp qm ql qv qc qe _ _ _ hE hP hD hS (lv_sub hl [1, 2, 3, 4, 5, 6, 7, 0] rfl) e
  have hb_544 : ∀ (z0 : Int32) (z1 : Int32) (lr : Nat → Int32) (lq : Nat → Int32) (mo : Int32) (n : Nat) (qp : Nat → Int32) (qm : Nat → Int32) (ql : Nat → Int32) (qv : Nat → Int32) (qc : Nat → Int32) (qe : Nat → Int32) (H : Heap) (locs : List Loc) (ls : Array Slot), (n = 0 → aE = aS) → va_P D vwCl (kv_lkw ci la ad lm lp lr lq kc kh ks fo kl kp dy mo n pa aE qp qm ql qv qc qe mt mv sw hv tk tn sc) H → va_D A (kv_lkw ci la ad lm lp lr lq kc kh ks fo kl kp dy mo n pa aE qp qm ql qv qc qe mt mv sw hv tk tn sc) → va_S A s.heap H locs → lv_has ls 12 [] → Rz = pf_L_rights_544 lp kl dy p1 p2  z0 z1 lr lq mo n qp qm ql qv qc qe → W p l en rmL_rights s m args below meth c H locs 4 24 Q (F0 m 544 ls [.int z1, .int z0]) := by
    intro z0 z1 lr lq mo n qp qm ql qv qc qe H locs ls hE hP hD hS hl e
    rw [pf_L_rights_544] at e
    refine lv_icmp_ne (tgt := 551) hx hb dL_rights_544 (by decide) (fun c_544 => ?_) (fun c_544 => ?_)
    · have e := e.trans (if_neg c_544)
      refine lv_iconst (v := 0) hx hb dL_rights_551 (by decide) ?_
      rw [hQ]
      refine W.widen (k := 7) (n := 51) (Nat.le_of_ble_eq_true rfl) (Nat.le_of_ble_eq_true rfl) ?_
      exact W.zret (v := 0) hx hb hr (by decide +kernel) (fun t ht hW => ⟨⟨0, (lr, lq, mo, n, qp, qm, ql, qv, qc, qe, pa, aE), rfl, ⟨e, hE⟩, ⟨by rw [ht]; exact hP, by rw [hAe]; exact hD⟩⟩, hS.F ht⟩) hS.2.2 dL_rights_552
    · have e := e.trans (if_pos c_544)
      refine lv_iconst (v := 1) hx hb dL_rights_547 (by decide) ?_
      refine lv_goto (tgt := 552) hx hb dL_rights_548 (by decide) ?_
      rw [hQ]
      refine W.widen (k := 7) (n := 51) (Nat.le_of_ble_eq_true rfl) (Nat.le_of_ble_eq_true rfl) ?_
      exact W.zret (v := 1) hx hb hr (by decide +kernel) (fun t ht hW => ⟨⟨1, (lr, lq, mo, n, qp, qm, ql, qv, qc, qe, pa, aE), rfl, ⟨e, hE⟩, ⟨by rw [ht]; exact hP, by rw [hAe]; exact hD⟩⟩, hS.F ht⟩) hS.2.2 dL_rights_552
  have hb_513 : ∀ (x6 : Int32) (x7 : Int32) (x8 : Int32) (x9 : Int32) (z1 : Int32) (z2 : Int32) (z3 : Int32) (lr : Nat → Int32) (lq : Nat → Int32) (mo : Int32) (n : Nat) (qp : Nat → Int32) (qm : Nat → Int32) (ql : Nat → Int32) (qv : Nat → Int32) (qc : Nat → Int32) (qe : Nat → Int32) (H : Heap) (locs : List Loc) (ls : Array Slot), (n = 0 → aE = aS) → va_P D vwCl (kv_lkw ci la ad lm lp lr lq kc kh ks fo kl kp dy mo n pa aE qp qm ql qv qc qe mt mv sw hv tk tn sc) H → va_D A (kv_lkw ci la ad lm lp lr lq kc kh ks fo kl kp dy mo n pa aE qp qm ql qv qc qe mt mv sw hv tk tn sc) → va_S A s.heap H locs → lv_has ls 12 [(0, .ref (ad 0)), (4, .ref (la 2)), (6, .int x6), (7, .int x7), (8, .int x8), (9, .int x9)] → Rz = pf_L_rights_513 lp kl dy p1 p2  x6 x7 x8 x9 z1 z2 z3 lr lq mo n qp qm ql qv qc qe → W p l en rmL_rights s m args below meth c H locs 0 0 Q (F0 m 513 ls [.int z3, .int z2, .int z1, .ref (la 2)]) := by
    intro x6 x7 x8 x9 z1 z2 z3 lr lq mo n qp qm ql qv qc qe H locs ls hE hP hD hS hl e
    rw [pf_L_rights_513] at e
    refine lv_iadd hx hb dL_rights_513 ?_
    obtain ⟨hi_514, e⟩ := kv_G_e e hRz
    refine kv_iast hx hb hK hP hD hS 2 0 (fun g_514 => (kv_lkw ci la ad lm lp g_514 lq kc kh ks fo kl kp dy mo n pa aE qp qm ql qv qc qe mt mv sw hv tk tn sc)) hi_514 dL_rights_514 rfl rfl (fun _ => rfl) (fun g_514 H locs eg_514 hP hD hS => ?_)
    have e := kv_T_e e eg_514
    refine lv_aload_n hx hb dL_rights_515 rfl (lv_at hl 0 rfl) ?_
    refine lv_iconst (v := 4) hx hb dL_rights_516 (by decide) ?_
    refine lv_iload hx hb dL_rights_517 (lv_at hl 2 rfl) ?_
    refine lv_iload hx hb dL_rights_519 (lv_at hl 3 rfl) ?_
    refine lv_iconst (v := 0) hx hb dL_rights_521 (by decide) ?_
    refine lv_iconst (v := 0) hx hb dL_rights_522 (by decide) ?_
    have hP : va_P D vwCl ((kv_kw ci ad kc kh ks fo kl kp dy mo n pa aE qp qm ql qv qc qe mt mv sw hv tk tn sc) ++ (kv_lw ci la lm lp g_514 lq)) H := kv_commP hP
    have hD : va_D A ((kv_kw ci ad kc kh ks fo kl kp dy mo n pa aE qp qm ql qv qc qe mt mv sw hv tk tn sc) ++ (kv_lw ci la lm lp g_514 lq)) := kv_commD hD
    refine kv_calliF (vx_runSW (As := [.ref (ad 0), .int 4, .int x6, .int x7, .int 0, .int 0]) (rest := []) ⟨hx, hb, hml, hown, hts⟩ (c_L_calls_4 l hl9 D ci ad aS kc kh ks fo kl kp dy mo n pa aE qp qm ql qv qc qe mt mv sw hv tk tn sc x6 x7 0 0 (kv_q3_n e hRz) H.size) (vx_cwSW 6 hts gL_rights_L_calls rfl rfl rfl (by decide +kernel) ⟨Nat.le_of_ble_eq_true rfl, Nat.le_of_ble_eq_true rfl⟩) (kv_preSW hK (kv_Pl hP) (kv_Dl hD) hT hT2 hN hS hA) rfl rfl hl.1 rfl (lv_room (Nat.le_of_ble_eq_true rfl)) dL_rights_523 ⟨Nat.le_of_ble_eq_true rfl, Nat.le_of_ble_eq_true rfl⟩) hP hD hS hA (fun r_523 u_523 H locs hw_523 hP hD hS => ?_)
    obtain ⟨o0_523, o1_523⟩ := u_523
    have e := kv_q3_e e hw_523
    have hP : va_P D vwCl (kv_lkw ci la ad lm lp g_514 lq kc kh ks fo kl kp dy mo n pa aE qp qm ql qv o0_523 o1_523 mt mv sw hv tk tn sc) H := kv_commP hP
    have hD : va_D A (kv_lkw ci la ad lm lp g_514 lq kc kh ks fo kl kp dy mo n pa aE qp qm ql qv o0_523 o1_523 mt mv sw hv tk tn sc) := kv_commD hD
    refine lv_iload hx hb dL_rights_526 (lv_at hl 5 rfl) ?_
    refine lv_if_eq (tgt := 541) hx hb dL_rights_528 (by decide) (fun c_528 => ?_) (fun c_528 => ?_)
    · have e := e.trans (if_pos c_528)
      refine lv_sipush (v := (-2003)) hx hb dL_rights_541 (by decide) ?_
      exact hb_544 r_523 (-2003) g_514 lq mo n qp qm ql qv o0_523 o1_523 _ _ _ hE hP hD hS (lv_sub hl [] rfl) e
    · have e := e.trans (if_neg c_528)
      refine lv_aload hx hb dL_rights_531 (lv_at hl 1 rfl) ?_
      refine lv_iload hx hb dL_rights_533 (lv_at hl 4 rfl) ?_
      refine lv_iconst (v := 3) hx hb dL_rights_535 (by decide) ?_
      refine lv_iadd hx hb dL_rights_536 ?_
      obtain ⟨hi_537, e⟩ := kv_G_e e hRz
      refine kv_iald hx hb hK hP 2 0 hi_537 dL_rights_537 rfl rfl (fun y_537 ey_537 => ?_)
      have e := kv_T_e e ey_537
      refine lv_goto (tgt := 544) hx hb dL_rights_538 (by decide) ?_
      exact hb_544 r_523 y_537 g_514 lq mo n qp qm ql qv o0_523 o1_523 _ _ _ hE hP hD hS (lv_sub hl [] rfl) e
  have hb_492 : ∀ (x6 : Int32) (x7 : Int32) (x8 : Int32) (x9 : Int32) (z1 : Int32) (z2 : Int32) (z3 : Int32) (lr : Nat → Int32) (lq : Nat → Int32) (mo : Int32) (n : Nat) (qp : Nat → Int32) (qm : Nat → Int32) (ql : Nat → Int32) (qv : Nat → Int32) (qc : Nat → Int32) (qe : Nat → Int32) (H : Heap) (locs : List Loc) (ls : Array Slot), (n = 0 → aE = aS) → va_P D vwCl (kv_lkw ci la ad lm lp lr lq kc kh ks fo kl kp dy mo n pa aE qp qm ql qv qc qe mt mv sw hv tk tn sc) H → va_D A (kv_lkw ci la ad lm lp lr lq kc kh ks fo kl kp dy mo n pa aE qp qm ql qv qc qe mt mv sw hv tk tn sc) → va_S A s.heap H locs → lv_has ls 12 [(0, .ref (ad 0)), (4, .ref (la 2)), (6, .int x6), (7, .int x7), (8, .int x8), (9, .int x9)] → Rz = pf_L_rights_492 lp kl dy p1 p2  x6 x7 x8 x9 z1 z2 z3 lr lq mo n qp qm ql qv qc qe → W p l en rmL_rights s m args below meth c H locs 0 0 Q (F0 m 492 ls [.int z3, .int z2, .int z1, .ref (la 2)]) := by
    intro x6 x7 x8 x9 z1 z2 z3 lr lq mo n qp qm ql qv qc qe H locs ls hE hP hD hS hl e
    rw [pf_L_rights_492] at e
    refine lv_isub hx hb dL_rights_492 ?_
    obtain ⟨hi_493, e⟩ := kv_G_e e hRz
    refine kv_iast hx hb hK hP hD hS 2 0 (fun g_493 => (kv_lkw ci la ad lm lp g_493 lq kc kh ks fo kl kp dy mo n pa aE qp qm ql qv qc qe mt mv sw hv tk tn sc)) hi_493 dL_rights_493 rfl rfl (fun _ => rfl) (fun g_493 H locs eg_493 hP hD hS => ?_)
    have e := kv_T_e e eg_493
    refine lv_aload hx hb dL_rights_494 (lv_at hl 1 rfl) ?_
    refine lv_iload hx hb dL_rights_496 (lv_at hl 4 rfl) ?_
    refine lv_iconst (v := 3) hx hb dL_rights_498 (by decide) ?_
    refine lv_iadd hx hb dL_rights_499 ?_
    refine lv_topi (fun y_500 ey_500 => ?_)
    have e := kv_T_e e ey_500
    refine lv_dup2_11 hx hb dL_rights_500 rfl rfl ?_
    obtain ⟨hi_501, e⟩ := kv_G_e e hRz
    refine kv_iald hx hb hK hP 2 0 hi_501 dL_rights_501 rfl rfl (fun y_501 ey_501 => ?_)
    have e := kv_T_e e ey_501
    refine lv_iload hx hb dL_rights_502 (lv_at hl 5 rfl) ?_
    refine lv_if_eq (tgt := 512) hx hb dL_rights_504 (by decide) (fun c_504 => ?_) (fun c_504 => ?_)
    · have e := e.trans (if_pos c_504)
      refine lv_iconst (v := 0) hx hb dL_rights_512 (by decide) ?_
      exact hb_513 x6 x7 x8 x9 y_500 y_501 0 g_493 lq mo n qp qm ql qv qc qe _ _ _ hE hP hD hS (lv_sub hl [0, 1, 2, 3, 4, 5] rfl) e
    · have e := e.trans (if_neg c_504)
      refine lv_iload hx hb dL_rights_507 (lv_at hl 3 rfl) ?_
      refine lv_goto (tgt := 513) hx hb dL_rights_509 (by decide) ?_
      exact hb_513 x6 x7 x8 x9 y_500 y_501 x7 g_493 lq mo n qp qm ql qv qc qe _ _ _ hE hP hD hS (lv_sub hl [0, 1, 2, 3, 4, 5] rfl) e
  have hb_471 : ∀ (x6 : Int32) (x7 : Int32) (x8 : Int32) (z0 : Int32) (lr : Nat → Int32) (lq : Nat → Int32) (mo : Int32) (n : Nat) (qp : Nat → Int32) (qm : Nat → Int32) (ql : Nat → Int32) (qv : Nat → Int32) (qc : Nat → Int32) (qe : Nat → Int32) (H : Heap) (locs : List Loc) (ls : Array Slot), (n = 0 → aE = aS) → va_P D vwCl (kv_lkw ci la ad lm lp lr lq kc kh ks fo kl kp dy mo n pa aE qp qm ql qv qc qe mt mv sw hv tk tn sc) H → va_D A (kv_lkw ci la ad lm lp lr lq kc kh ks fo kl kp dy mo n pa aE qp qm ql qv qc qe mt mv sw hv tk tn sc) → va_S A s.heap H locs → lv_has ls 12 [(0, .ref (ad 0)), (4, .ref (la 2)), (6, .int x6), (7, .int x7), (8, .int x8)] → Rz = pf_L_rights_471 lp kl dy p1 p2  x6 x7 x8 z0 lr lq mo n qp qm ql qv qc qe → W p l en rmL_rights s m args below meth c H locs 0 0 Q (F0 m 471 ls [.int z0]) := by
    intro x6 x7 x8 z0 lr lq mo n qp qm ql qv qc qe H locs ls hE hP hD hS hl e
    rw [pf_L_rights_471] at e
    refine lv_istore (lv' := [(9, .int z0), (0, .ref (ad 0)), (4, .ref (la 2)), (6, .int x6), (7, .int x7), (8, .int x8)]) hx hb dL_rights_471 hl (by decide) rfl (fun ls hl => ?_)
    refine lv_aload hx hb dL_rights_473 (lv_at hl 2 rfl) ?_
    refine lv_iload hx hb dL_rights_475 (lv_at hl 5 rfl) ?_
    refine lv_iconst (v := 2) hx hb dL_rights_477 (by decide) ?_
    refine lv_iadd hx hb dL_rights_478 ?_
    refine lv_topi (fun y_479 ey_479 => ?_)
    have e := kv_T_e e ey_479
    refine lv_dup2_11 hx hb dL_rights_479 rfl rfl ?_
    obtain ⟨hi_480, e⟩ := kv_G_e e hRz
    refine kv_iald hx hb hK hP 2 0 hi_480 dL_rights_480 rfl rfl (fun y_480 ey_480 => ?_)
    have e := kv_T_e e ey_480
    refine lv_iload hx hb dL_rights_481 (lv_at hl 0 rfl) ?_
    refine lv_if_eq (tgt := 491) hx hb dL_rights_483 (by decide) (fun c_483 => ?_) (fun c_483 => ?_)
    · have e := e.trans (if_pos c_483)
      refine lv_iconst (v := 0) hx hb dL_rights_491 (by decide) ?_
      exact hb_492 x6 x7 x8 z0 y_479 y_480 0 lr lq mo n qp qm ql qv qc qe _ _ _ hE hP hD hS (lv_sub hl [1, 2, 3, 4, 5, 0] rfl) e
    · have e := e.trans (if_neg c_483)
      refine lv_iload hx hb dL_rights_486 (lv_at hl 4 rfl) ?_
      refine lv_goto (tgt := 492) hx hb dL_rights_488 (by decide) ?_
      exact hb_492 x6 x7 x8 z0 y_479 y_480 x7 lr lq mo n qp qm ql qv qc qe _ _ _ hE hP hD hS (lv_sub hl [1, 2, 3, 4, 5, 0] rfl) e
  have hb_439 : ∀ (x6 : Int32) (x8 : Int32) (z0 : Int32) (lr : Nat → Int32) (lq : Nat → Int32) (mo : Int32) (n : Nat) (qp : Nat → Int32) (qm : Nat → Int32) (ql : Nat → Int32) (qv : Nat → Int32) (qc : Nat → Int32) (qe : Nat → Int32) (H : Heap) (locs : List Loc) (ls : Array Slot), (n = 0 → aE = aS) → va_P D vwCl (kv_lkw ci la ad lm lp lr lq kc kh ks fo kl kp dy mo n pa aE qp qm ql qv qc qe mt mv sw hv tk tn sc) H → va_D A (kv_lkw ci la ad lm lp lr lq kc kh ks fo kl kp dy mo n pa aE qp qm ql qv qc qe mt mv sw hv tk tn sc) → va_S A s.heap H locs → lv_has ls 12 [(0, .ref (ad 0)), (4, .ref (la 2)), (6, .int x6), (8, .int x8)] → Rz = pf_L_rights_439 lp kl dy p1 p2  x6 x8 z0 lr lq mo n qp qm ql qv qc qe → W p l en rmL_rights s m args below meth c H locs 0 0 Q (F0 m 439 ls [.int z0]) := by
    intro x6 x8 z0 lr lq mo n qp qm ql qv qc qe H locs ls hE hP hD hS hl e
    rw [pf_L_rights_439] at e
    refine lv_istore (lv' := [(7, .int z0), (0, .ref (ad 0)), (4, .ref (la 2)), (6, .int x6), (8, .int x8)]) hx hb dL_rights_439 hl (by decide) rfl (fun ls hl => ?_)
    refine lv_aload hx hb dL_rights_441 (lv_at hl 2 rfl) ?_
    refine lv_iload hx hb dL_rights_443 (lv_at hl 4 rfl) ?_
    refine lv_iconst (v := 2) hx hb dL_rights_445 (by decide) ?_
    refine lv_iadd hx hb dL_rights_446 ?_
    obtain ⟨hi_447, e⟩ := kv_G_e e hRz
    refine kv_iald hx hb hK hP 2 0 hi_447 dL_rights_447 rfl rfl (fun y_447 ey_447 => ?_)
    have e := kv_T_e e ey_447
    refine lv_iload hx hb dL_rights_448 (lv_at hl 0 rfl) ?_
    refine lv_icmp_lt (tgt := 470) hx hb dL_rights_450 (by decide) (fun c_450 => ?_) (fun c_450 => ?_)
    · have e := e.trans (if_pos c_450)
      refine lv_iconst (v := 0) hx hb dL_rights_470 (by decide) ?_
      exact hb_471 x6 z0 x8 0 lr lq mo n qp qm ql qv qc qe _ _ _ hE hP hD hS (lv_sub hl [1, 2, 3, 0, 4] rfl) e
    · have e := e.trans (if_neg c_450)
      refine lv_aload hx hb dL_rights_453 (lv_at hl 2 rfl) ?_
      refine lv_iload hx hb dL_rights_455 (lv_at hl 4 rfl) ?_
      refine lv_iconst (v := 3) hx hb dL_rights_457 (by decide) ?_
      refine lv_iadd hx hb dL_rights_458 ?_
      obtain ⟨hi_459, e⟩ := kv_G_e e hRz
      refine kv_iald hx hb hK hP 2 0 hi_459 dL_rights_459 rfl rfl (fun y_459 ey_459 => ?_)
      have e := kv_T_e e ey_459
      refine lv_iload hx hb dL_rights_460 (lv_at hl 0 rfl) ?_
      refine lv_iadd hx hb dL_rights_462 ?_
      refine lv_if_lt (tgt := 470) hx hb dL_rights_463 (by decide) (fun c_463 => ?_) (fun c_463 => ?_)
      · have e := e.trans (if_pos c_463)
        refine lv_iconst (v := 0) hx hb dL_rights_470 (by decide) ?_
        exact hb_471 x6 z0 x8 0 lr lq mo n qp qm ql qv qc qe _ _ _ hE hP hD hS (lv_sub hl [1, 2, 3, 0, 4] rfl) e
      · have e := e.trans (if_neg c_463)
        refine lv_iconst (v := 1) hx hb dL_rights_466 (by decide) ?_
        refine lv_goto (tgt := 471) hx hb dL_rights_467 (by decide) ?_
        exact hb_471 x6 z0 x8 1 lr lq mo n qp qm ql qv qc qe _ _ _ hE hP hD hS (lv_sub hl [1, 2, 3, 0, 4] rfl) e
  have hb_420 : ∀ (x6 : Int32) (x7 : Int32) (x8 : Int32) (lr : Nat → Int32) (lq : Nat → Int32) (mo : Int32) (n : Nat) (qp : Nat → Int32) (qm : Nat → Int32) (ql : Nat → Int32) (qv : Nat → Int32) (qc : Nat → Int32) (qe : Nat → Int32) (H : Heap) (locs : List Loc) (ls : Array Slot), (n = 0 → aE = aS) → va_P D vwCl (kv_lkw ci la ad lm lp lr lq kc kh ks fo kl kp dy mo n pa aE qp qm ql qv qc qe mt mv sw hv tk tn sc) H → va_D A (kv_lkw ci la ad lm lp lr lq kc kh ks fo kl kp dy mo n pa aE qp qm ql qv qc qe mt mv sw hv tk tn sc) → va_S A s.heap H locs → lv_has ls 12 [(0, .ref (ad 0)), (2, .int p2), (4, .ref (la 2)), (6, .int x6), (7, .int x7), (8, .int x8)] → Rz = pf_L_rights_420 lp kl dy p1 p2  x6 x7 x8 lr lq mo n qp qm ql qv qc qe → W p l en rmL_rights s m args below meth c H locs 0 0 Q (F0 m 420 ls []) := by
    intro x6 x7 x8 lr lq mo n qp qm ql qv qc qe H locs ls hE hP hD hS hl e
    rw [pf_L_rights_420] at e
    refine lv_iload_n hx hb dL_rights_420 rfl (lv_at hl 1 rfl) ?_
    refine lv_bipush (v := 9) hx hb dL_rights_421 (by decide) ?_
    refine lv_ishr hx hb dL_rights_423 ?_
    refine lv_iconst (v := 2) hx hb dL_rights_424 (by decide) ?_
    have hP : va_P D vwCl ((kv_lw ci la lm lp lr lq) ++ (kv_kw ci ad kc kh ks fo kl kp dy mo n pa aE qp qm ql qv qc qe mt mv sw hv tk tn sc)) H := hP
    have hD : va_D A ((kv_lw ci la lm lp lr lq) ++ (kv_kw ci ad kc kh ks fo kl kp dy mo n pa aE qp qm ql qv qc qe mt mv sw hv tk tn sc)) := hD
    refine kv_calliF (va_runS (As := [.int (p2 >>> (9 &&& 31)), .int 2]) (rest := []) ⟨hx, hb, hml, hown, hts⟩ (c_L_low l D ci la lm lp lr lq (p2 >>> (9 &&& 31)) 2 (kv_q1_n e hRz) H.size) (va_cwS 2 hts gL_rights_L_low rfl rfl rfl (by decide +kernel) ⟨Nat.le_of_ble_eq_true rfl, Nat.le_of_ble_eq_true rfl⟩) (kv_preS hK (kv_Pl hP) (kv_Dl hD)) rfl rfl hl.1 rfl (lv_room (Nat.le_of_ble_eq_true rfl)) dL_rights_425 ⟨Nat.le_of_ble_eq_true rfl, Nat.le_of_ble_eq_true rfl⟩) hP hD hS hA (fun r_425 u_425 H locs hw_425 hP hD hS => ?_)
    have e := kv_q1_e e hw_425
    have hP : va_P D vwCl (kv_lkw ci la ad lm lp lr lq kc kh ks fo kl kp dy mo n pa aE qp qm ql qv qc qe mt mv sw hv tk tn sc) H := hP
    have hD : va_D A (kv_lkw ci la ad lm lp lr lq kc kh ks fo kl kp dy mo n pa aE qp qm ql qv qc qe mt mv sw hv tk tn sc) := hD
    refine lv_if_ne (tgt := 436) hx hb dL_rights_428 (by decide) (fun c_428 => ?_) (fun c_428 => ?_)
    · have e := e.trans (if_neg c_428)
      refine lv_iload hx hb dL_rights_436 (lv_at hl 4 rfl) ?_
      refine lv_ineg hx hb dL_rights_438 ?_
      exact hb_439 x6 x8 (-x7) lr lq mo n qp qm ql qv qc qe _ _ _ hE hP hD hS (lv_sub hl [0, 2, 3, 5] rfl) e
    · have e := e.trans (if_pos c_428)
      refine lv_iload hx hb dL_rights_431 (lv_at hl 4 rfl) ?_
      refine lv_goto (tgt := 439) hx hb dL_rights_433 (by decide) ?_
      exact hb_439 x6 x8 x7 lr lq mo n qp qm ql qv qc qe _ _ _ hE hP hD hS (lv_sub hl [0, 2, 3, 5] rfl) e
  have hb_205 : ∀ (x6 : Int32) (lr : Nat → Int32) (lq : Nat → Int32) (mo : Int32) (n : Nat) (qp : Nat → Int32) (qm : Nat → Int32) (ql : Nat → Int32) (qv : Nat → Int32) (qc : Nat → Int32) (qe : Nat → Int32) (H : Heap) (locs : List Loc) (ls : Array Slot), (n = 0 → aE = aS) → va_P D vwCl (kv_lkw ci la ad lm lp lr lq kc kh ks fo kl kp dy mo n pa aE qp qm ql qv qc qe mt mv sw hv tk tn sc) H → va_D A (kv_lkw ci la ad lm lp lr lq kc kh ks fo kl kp dy mo n pa aE qp qm ql qv qc qe mt mv sw hv tk tn sc) → va_S A s.heap H locs → lv_has ls 12 [(0, .ref (ad 0)), (1, .int p1), (2, .int p2), (3, .ref (la 1)), (4, .ref (la 2)), (5, .ref (la 3)), (6, .int x6)] → Rz = pf_L_rights_205 lp kl dy p1 p2  x6 lr lq mo n qp qm ql qv qc qe → W p l en rmL_rights s m args below meth c H locs 0 0 Q (F0 m 205 ls []) := by
    intro x6 lr lq mo n qp qm ql qv qc qe H locs ls hE hP hD hS hl e
    rw [pf_L_rights_205] at e
    refine lv_iconst (v := 1) hx hb dL_rights_205 (by decide) ?_
    refine lv_iload_n hx hb dL_rights_206 rfl (lv_at hl 2 rfl) ?_
    refine lv_iconst (v := 4) hx hb dL_rights_207 (by decide) ?_
    refine lv_ishr hx hb dL_rights_208 ?_
    refine lv_bipush (v := 12) hx hb dL_rights_209 (by decide) ?_
    have hP : va_P D vwCl ((kv_lw ci la lm lp lr lq) ++ (kv_kw ci ad kc kh ks fo kl kp dy mo n pa aE qp qm ql qv qc qe mt mv sw hv tk tn sc)) H := hP
    have hD : va_D A ((kv_lw ci la lm lp lr lq) ++ (kv_kw ci ad kc kh ks fo kl kp dy mo n pa aE qp qm ql qv qc qe mt mv sw hv tk tn sc)) := hD
    refine kv_calliF (va_runS (As := [.int (p2 >>> (4 &&& 31)), .int 12]) (rest := [.int 1]) ⟨hx, hb, hml, hown, hts⟩ (c_L_low l D ci la lm lp lr lq (p2 >>> (4 &&& 31)) 12 (kv_q1_n e hRz) H.size) (va_cwS 2 hts gL_rights_L_low rfl rfl rfl (by decide +kernel) ⟨Nat.le_of_ble_eq_true rfl, Nat.le_of_ble_eq_true rfl⟩) (kv_preS hK (kv_Pl hP) (kv_Dl hD)) rfl rfl hl.1 rfl (lv_room (Nat.le_of_ble_eq_true rfl)) dL_rights_211 ⟨Nat.le_of_ble_eq_true rfl, Nat.le_of_ble_eq_true rfl⟩) hP hD hS hA (fun r_211 u_211 H locs hw_211 hP hD hS => ?_)
    have e := kv_q1_e e hw_211
    have hP : va_P D vwCl (kv_lkw ci la ad lm lp lr lq kc kh ks fo kl kp dy mo n pa aE qp qm ql qv qc qe mt mv sw hv tk tn sc) H := hP
    have hD : va_D A (kv_lkw ci la ad lm lp lr lq kc kh ks fo kl kp dy mo n pa aE qp qm ql qv qc qe mt mv sw hv tk tn sc) := hD
    refine lv_iadd hx hb dL_rights_214 ?_
    refine lv_topi (fun y_215 ey_215 => ?_)
    have e := kv_T_e e ey_215
    refine lv_istore (lv' := [(7, .int y_215), (0, .ref (ad 0)), (1, .int p1), (2, .int p2), (3, .ref (la 1)), (4, .ref (la 2)), (5, .ref (la 3)), (6, .int x6)]) hx hb dL_rights_215 hl (by decide) rfl (fun ls hl => ?_)
    refine lv_bipush (v := 6) hx hb dL_rights_217 (by decide) ?_
    refine lv_iload hx hb dL_rights_219 (lv_at hl 7 rfl) ?_
    refine lv_imul hx hb dL_rights_221 ?_
    refine lv_topi (fun y_222 ey_222 => ?_)
    have e := kv_T_e e ey_222
    refine lv_istore (lv' := [(8, .int y_222), (7, .int y_215), (0, .ref (ad 0)), (1, .int p1), (2, .int p2), (3, .ref (la 1)), (4, .ref (la 2)), (5, .ref (la 3)), (6, .int x6)]) hx hb dL_rights_222 hl (by decide) rfl (fun ls hl => ?_)
    refine lv_iload_n hx hb dL_rights_224 rfl (lv_at hl 3 rfl) ?_
    refine lv_iconst (v := 1) hx hb dL_rights_225 (by decide) ?_
    refine lv_icmp_ne (tgt := 420) hx hb dL_rights_226 (by decide) (fun c_226 => ?_) (fun c_226 => ?_)
    · have e := e.trans (if_neg c_226)
      exact hb_420 x6 y_215 y_222 lr lq mo n qp qm ql qv qc qe _ _ _ hE hP hD hS (lv_sub hl [2, 4, 6, 8, 1, 0] rfl) e
    · have e := e.trans (if_pos c_226)
      refine lv_aload hx hb dL_rights_229 (lv_at hl 7 rfl) ?_
      refine lv_iconst (v := 1) hx hb dL_rights_231 (by decide) ?_
      obtain ⟨hi_232, e⟩ := kv_G_e e hRz
      refine kv_iald hx hb hK hP 3 0 hi_232 dL_rights_232 rfl rfl (fun y_232 ey_232 => ?_)
      have e := kv_T_e e ey_232
      refine lv_bipush (v := 10) hx hb dL_rights_233 (by decide) ?_
      refine lv_icmp_ge (tgt := 420) hx hb dL_rights_235 (by decide) (fun c_235 => ?_) (fun c_235 => ?_)
      · have e := e.trans (if_pos c_235)
        exact hb_420 x6 y_215 y_222 lr lq mo n qp qm ql qv qc qe _ _ _ hE hP hD hS (lv_sub hl [2, 4, 6, 8, 1, 0] rfl) e
      · have e := e.trans (if_neg c_235)
        refine lv_aload hx hb dL_rights_238 (lv_at hl 6 rfl) ?_
        refine lv_iload hx hb dL_rights_240 (lv_at hl 0 rfl) ?_
        refine lv_iconst (v := 2) hx hb dL_rights_242 (by decide) ?_
        refine lv_iadd hx hb dL_rights_243 ?_
        obtain ⟨hi_244, e⟩ := kv_G_e e hRz
        refine kv_iald hx hb hK hP 2 0 hi_244 dL_rights_244 rfl rfl (fun y_244 ey_244 => ?_)
        have e := kv_T_e e ey_244
        refine lv_iload hx hb dL_rights_245 (lv_at hl 1 rfl) ?_
        refine lv_icmp_lt (tgt := 273) hx hb dL_rights_247 (by decide) (fun c_247 => ?_) (fun c_247 => ?_)
        · have e := e.trans (if_pos c_247)
          refine lv_iconst (v := 0) hx hb dL_rights_273 (by decide) ?_
          exact hb_274 x6 y_215 y_222 0 lr lq mo n qp qm ql qv qc qe _ _ _ hE hP hD hS (lv_sub hl [2, 5, 6, 7, 8, 1, 0] rfl) e
        · have e := e.trans (if_neg c_247)
          refine lv_aload hx hb dL_rights_250 (lv_at hl 6 rfl) ?_
          refine lv_iload hx hb dL_rights_252 (lv_at hl 0 rfl) ?_
          refine lv_iconst (v := 4) hx hb dL_rights_254 (by decide) ?_
          refine lv_iadd hx hb dL_rights_255 ?_
          obtain ⟨hi_256, e⟩ := kv_G_e e hRz
          refine kv_iald hx hb hK hP 2 0 hi_256 dL_rights_256 rfl rfl (fun y_256 ey_256 => ?_)
          have e := kv_T_e e ey_256
          refine lv_aload_n hx hb dL_rights_257 rfl (lv_at hl 5 rfl) ?_
          refine lv_iconst (v := 2) hx hb dL_rights_258 (by decide) ?_
          refine lv_aload hx hb dL_rights_259 (lv_at hl 6 rfl) ?_
          refine lv_iload hx hb dL_rights_261 (lv_at hl 0 rfl) ?_
          obtain ⟨hi_263, e⟩ := kv_G_e e hRz
          refine kv_iald hx hb hK hP 2 0 hi_263 dL_rights_263 rfl rfl (fun y_263 ey_263 => ?_)
          have e := kv_T_e e ey_263
          refine lv_imul hx hb dL_rights_264 ?_
          obtain ⟨hi_265, e⟩ := kv_G_e e hRz
          refine kv_iald hx hb hK hP 1 0 hi_265 dL_rights_265 rfl rfl (fun y_265 ey_265 => ?_)
          have e := kv_T_e e ey_265
          refine lv_icmp_ge (tgt := 273) hx hb dL_rights_266 (by decide) (fun c_266 => ?_) (fun c_266 => ?_)
          · have e := e.trans (if_pos c_266)
            refine lv_iconst (v := 0) hx hb dL_rights_273 (by decide) ?_
            exact hb_274 x6 y_215 y_222 0 lr lq mo n qp qm ql qv qc qe _ _ _ hE hP hD hS (lv_sub hl [2, 5, 6, 7, 8, 1, 0] rfl) e
          · have e := e.trans (if_neg c_266)
            refine lv_iconst (v := 1) hx hb dL_rights_269 (by decide) ?_
            refine lv_goto (tgt := 274) hx hb dL_rights_270 (by decide) ?_
            exact hb_274 x6 y_215 y_222 1 lr lq mo n qp qm ql qv qc qe _ _ _ hE hP hD hS (lv_sub hl [2, 5, 6, 7, 8, 1, 0] rfl) e
  have hb_32 : ∀ (x6 : Int32) (lr : Nat → Int32) (lq : Nat → Int32) (mo : Int32) (n : Nat) (qp : Nat → Int32) (qm : Nat → Int32) (ql : Nat → Int32) (qv : Nat → Int32) (qc : Nat → Int32) (qe : Nat → Int32) (H : Heap) (locs : List Loc) (ls : Array Slot), (n = 0 → aE = aS) → va_P D vwCl (kv_lkw ci la ad lm lp lr lq kc kh ks fo kl kp dy mo n pa aE qp qm ql qv qc qe mt mv sw hv tk tn sc) H → va_D A (kv_lkw ci la ad lm lp lr lq kc kh ks fo kl kp dy mo n pa aE qp qm ql qv qc qe mt mv sw hv tk tn sc) → va_S A s.heap H locs → lv_has ls 12 [(0, .ref (ad 0)), (1, .int p1), (2, .int p2), (3, .ref (la 1)), (4, .ref (la 2)), (5, .ref (la 3)), (6, .int x6)] → Rz = pf_L_rights_32 lp kl dy p1 p2  x6 lr lq mo n qp qm ql qv qc qe → W p l en rmL_rights s m args below meth c H locs 0 0 Q (F0 m 32 ls []) := by
    intro x6 lr lq mo n qp qm ql qv qc qe H locs ls hE hP hD hS hl e
    rw [pf_L_rights_32] at e
    refine lv_aload hx hb dL_rights_32 (lv_at hl 5 rfl) ?_
    refine lv_iconst (v := 1) hx hb dL_rights_34 (by decide) ?_
    obtain ⟨hi_35, e⟩ := kv_G_e e hRz
    refine kv_iald hx hb hK hP 3 0 hi_35 dL_rights_35 rfl rfl (fun y_35 ey_35 => ?_)
    have e := kv_T_e e ey_35
    refine lv_bipush (v := 10) hx hb dL_rights_36 (by decide) ?_
    refine lv_icmp_ge (tgt := 205) hx hb dL_rights_38 (by decide) (fun c_38 => ?_) (fun c_38 => ?_)
    · have e := e.trans (if_pos c_38)
      exact hb_205 x6 lr lq mo n qp qm ql qv qc qe _ _ _ hE hP hD hS (lv_sub hl [0, 1, 2, 3, 4, 5, 6] rfl) e
    · have e := e.trans (if_neg c_38)
      refine lv_bipush (v := 6) hx hb dL_rights_41 (by decide) ?_
      refine lv_aload hx hb dL_rights_43 (lv_at hl 5 rfl) ?_
      refine lv_iconst (v := 1) hx hb dL_rights_45 (by decide) ?_
      obtain ⟨hi_46, e⟩ := kv_G_e e hRz
      refine kv_iald hx hb hK hP 3 0 hi_46 dL_rights_46 rfl rfl (fun y_46 ey_46 => ?_)
      have e := kv_T_e e ey_46
      refine lv_imul hx hb dL_rights_47 ?_
      refine lv_topi (fun y_48 ey_48 => ?_)
      have e := kv_T_e e ey_48
      refine lv_istore (lv' := [(7, .int y_48), (0, .ref (ad 0)), (1, .int p1), (2, .int p2), (3, .ref (la 1)), (4, .ref (la 2)), (5, .ref (la 3)), (6, .int x6)]) hx hb dL_rights_48 hl (by decide) rfl (fun ls hl => ?_)
      refine lv_aload hx hb dL_rights_50 (lv_at hl 5 rfl) ?_
      refine lv_iload hx hb dL_rights_52 (lv_at hl 0 rfl) ?_
      refine lv_iload_n hx hb dL_rights_54 rfl (lv_at hl 3 rfl) ?_
      refine lv_iconst (v := 2) hx hb dL_rights_55 (by decide) ?_
      have hP : va_P D vwCl ((kv_lw ci la lm lp lr lq) ++ (kv_kw ci ad kc kh ks fo kl kp dy mo n pa aE qp qm ql qv qc qe mt mv sw hv tk tn sc)) H := hP
      have hD : va_D A ((kv_lw ci la lm lp lr lq) ++ (kv_kw ci ad kc kh ks fo kl kp dy mo n pa aE qp qm ql qv qc qe mt mv sw hv tk tn sc)) := hD
      refine kv_calliF (va_runS (As := [.int p2, .int 2]) (rest := [.int y_48, .ref (la 2)]) ⟨hx, hb, hml, hown, hts⟩ (c_L_low l D ci la lm lp lr lq p2 2 (kv_q1_n e hRz) H.size) (va_cwS 2 hts gL_rights_L_low rfl rfl rfl (by decide +kernel) ⟨Nat.le_of_ble_eq_true rfl, Nat.le_of_ble_eq_true rfl⟩) (kv_preS hK (kv_Pl hP) (kv_Dl hD)) rfl rfl hl.1 rfl (lv_room (Nat.le_of_ble_eq_true rfl)) dL_rights_56 ⟨Nat.le_of_ble_eq_true rfl, Nat.le_of_ble_eq_true rfl⟩) hP hD hS hA (fun r_56 u_56 H locs hw_56 hP hD hS => ?_)
      have e := kv_q1_e e hw_56
      have hP : va_P D vwCl (kv_lkw ci la ad lm lp lr lq kc kh ks fo kl kp dy mo n pa aE qp qm ql qv qc qe mt mv sw hv tk tn sc) H := hP
      have hD : va_D A (kv_lkw ci la ad lm lp lr lq kc kh ks fo kl kp dy mo n pa aE qp qm ql qv qc qe mt mv sw hv tk tn sc) := hD
      obtain ⟨hi_59, e⟩ := kv_G_e e hRz
      refine kv_iast hx hb hK hP hD hS 2 0 (fun g_59 => (kv_lkw ci la ad lm lp g_59 lq kc kh ks fo kl kp dy mo n pa aE qp qm ql qv qc qe mt mv sw hv tk tn sc)) hi_59 dL_rights_59 rfl rfl (fun _ => rfl) (fun g_59 H locs eg_59 hP hD hS => ?_)
      have e := kv_T_e e eg_59
      refine lv_aload hx hb dL_rights_60 (lv_at hl 5 rfl) ?_
      refine lv_iload hx hb dL_rights_62 (lv_at hl 0 rfl) ?_
      refine lv_iconst (v := 1) hx hb dL_rights_64 (by decide) ?_
      refine lv_iadd hx hb dL_rights_65 ?_
      refine lv_iload_n hx hb dL_rights_66 rfl (lv_at hl 3 rfl) ?_
      refine lv_iconst (v := 2) hx hb dL_rights_67 (by decide) ?_
      refine lv_ishr hx hb dL_rights_68 ?_
      refine lv_iconst (v := 2) hx hb dL_rights_69 (by decide) ?_
      have hP : va_P D vwCl ((kv_lw ci la lm lp g_59 lq) ++ (kv_kw ci ad kc kh ks fo kl kp dy mo n pa aE qp qm ql qv qc qe mt mv sw hv tk tn sc)) H := hP
      have hD : va_D A ((kv_lw ci la lm lp g_59 lq) ++ (kv_kw ci ad kc kh ks fo kl kp dy mo n pa aE qp qm ql qv qc qe mt mv sw hv tk tn sc)) := hD
      refine kv_calliF (va_runS (As := [.int (p2 >>> (2 &&& 31)), .int 2]) (rest := [.int (y_48 + 1), .ref (la 2)]) ⟨hx, hb, hml, hown, hts⟩ (c_L_low l D ci la lm lp g_59 lq (p2 >>> (2 &&& 31)) 2 (kv_q1_n e hRz) H.size) (va_cwS 2 hts gL_rights_L_low rfl rfl rfl (by decide +kernel) ⟨Nat.le_of_ble_eq_true rfl, Nat.le_of_ble_eq_true rfl⟩) (kv_preS hK (kv_Pl hP) (kv_Dl hD)) rfl rfl hl.1 rfl (lv_room (Nat.le_of_ble_eq_true rfl)) dL_rights_70 ⟨Nat.le_of_ble_eq_true rfl, Nat.le_of_ble_eq_true rfl⟩) hP hD hS hA (fun r_70 u_70 H locs hw_70 hP hD hS => ?_)
      have e := kv_q1_e e hw_70
      have hP : va_P D vwCl (kv_lkw ci la ad lm lp g_59 lq kc kh ks fo kl kp dy mo n pa aE qp qm ql qv qc qe mt mv sw hv tk tn sc) H := hP
      have hD : va_D A (kv_lkw ci la ad lm lp g_59 lq kc kh ks fo kl kp dy mo n pa aE qp qm ql qv qc qe mt mv sw hv tk tn sc) := hD
      obtain ⟨hi_73, e⟩ := kv_G_e e hRz
      refine kv_iast hx hb hK hP hD hS 2 0 (fun g_73 => (kv_lkw ci la ad lm lp g_73 lq kc kh ks fo kl kp dy mo n pa aE qp qm ql qv qc qe mt mv sw hv tk tn sc)) hi_73 dL_rights_73 rfl rfl (fun _ => rfl) (fun g_73 H locs eg_73 hP hD hS => ?_)
      have e := kv_T_e e eg_73
      refine lv_aload hx hb dL_rights_74 (lv_at hl 5 rfl) ?_
      refine lv_iload hx hb dL_rights_76 (lv_at hl 0 rfl) ?_
      refine lv_iconst (v := 2) hx hb dL_rights_78 (by decide) ?_
      refine lv_iadd hx hb dL_rights_79 ?_
      refine lv_iconst (v := 1) hx hb dL_rights_80 (by decide) ?_
      refine lv_iload_n hx hb dL_rights_81 rfl (lv_at hl 3 rfl) ?_
      refine lv_iconst (v := 4) hx hb dL_rights_82 (by decide) ?_
      refine lv_ishr hx hb dL_rights_83 ?_
      refine lv_aload hx hb dL_rights_84 (lv_at hl 5 rfl) ?_
      refine lv_iload hx hb dL_rights_86 (lv_at hl 0 rfl) ?_
      refine lv_iconst (v := 1) hx hb dL_rights_88 (by decide) ?_
      refine lv_iadd hx hb dL_rights_89 ?_
      obtain ⟨hi_90, e⟩ := kv_G_e e hRz
      refine kv_iald hx hb hK hP 2 0 hi_90 dL_rights_90 rfl rfl (fun y_90 ey_90 => ?_)
      have e := kv_T_e e ey_90
      refine lv_if_ne (tgt := 98) hx hb dL_rights_91 (by decide) (fun c_91 => ?_) (fun c_91 => ?_)
      · have e := e.trans (if_neg c_91)
        refine lv_bipush (v := 30) hx hb dL_rights_98 (by decide) ?_
        exact hb_100 y_48 (y_48 + 2) 1 (p2 >>> (4 &&& 31)) 30 g_73 lq mo n qp qm ql qv qc qe _ _ _ hE hP hD hS (lv_sub hl [1, 3, 4, 5, 6, 0] rfl) e
      · have e := e.trans (if_pos c_91)
        refine lv_iconst (v := 3) hx hb dL_rights_94 (by decide) ?_
        refine lv_goto (tgt := 100) hx hb dL_rights_95 (by decide) ?_
        exact hb_100 y_48 (y_48 + 2) 1 (p2 >>> (4 &&& 31)) 3 g_73 lq mo n qp qm ql qv qc qe _ _ _ hE hP hD hS (lv_sub hl [1, 3, 4, 5, 6, 0] rfl) e
  have hb_19 : ∀ (z0 : Int32) (lr : Nat → Int32) (lq : Nat → Int32) (mo : Int32) (n : Nat) (qp : Nat → Int32) (qm : Nat → Int32) (ql : Nat → Int32) (qv : Nat → Int32) (qc : Nat → Int32) (qe : Nat → Int32) (H : Heap) (locs : List Loc) (ls : Array Slot), (n = 0 → aE = aS) → va_P D vwCl (kv_lkw ci la ad lm lp lr lq kc kh ks fo kl kp dy mo n pa aE qp qm ql qv qc qe mt mv sw hv tk tn sc) H → va_D A (kv_lkw ci la ad lm lp lr lq kc kh ks fo kl kp dy mo n pa aE qp qm ql qv qc qe mt mv sw hv tk tn sc) → va_S A s.heap H locs → lv_has ls 12 [(0, .ref (ad 0)), (1, .int p1), (2, .int p2), (3, .ref (la 1)), (4, .ref (la 2)), (5, .ref (la 3))] → Rz = pf_L_rights_19 lp kl dy p1 p2  z0 lr lq mo n qp qm ql qv qc qe → W p l en rmL_rights s m args below meth c H locs 0 0 Q (F0 m 19 ls [.int z0]) := by
    intro z0 lr lq mo n qp qm ql qv qc qe H locs ls hE hP hD hS hl e
    rw [pf_L_rights_19] at e
    refine lv_istore (lv' := [(6, .int z0), (0, .ref (ad 0)), (1, .int p1), (2, .int p2), (3, .ref (la 1)), (4, .ref (la 2)), (5, .ref (la 3))]) hx hb dL_rights_19 hl (by decide) rfl (fun ls hl => ?_)
    refine lv_iload_n hx hb dL_rights_21 rfl (lv_at hl 2 rfl) ?_
    refine lv_if_eq (tgt := 32) hx hb dL_rights_22 (by decide) (fun c_22 => ?_) (fun c_22 => ?_)
    · have e := e.trans (if_pos c_22)
      exact hb_32 z0 lr lq mo n qp qm ql qv qc qe _ _ _ hE hP hD hS (lv_sub hl [1, 2, 3, 4, 5, 6, 0] rfl) e
    · have e := e.trans (if_neg c_22)
      refine lv_aload hx hb dL_rights_25 (lv_at hl 6 rfl) ?_
      refine lv_iconst (v := 1) hx hb dL_rights_27 (by decide) ?_
      obtain ⟨hi_28, e⟩ := kv_G_e e hRz
      refine kv_iald hx hb hK hP 3 0 hi_28 dL_rights_28 rfl rfl (fun y_28 ey_28 => ?_)
      have e := kv_T_e e ey_28
      refine lv_if_ne (tgt := 205) hx hb dL_rights_29 (by decide) (fun c_29 => ?_) (fun c_29 => ?_)
      · have e := e.trans (if_neg c_29)
        exact hb_205 z0 lr lq mo n qp qm ql qv qc qe _ _ _ hE hP hD hS (lv_sub hl [1, 2, 3, 4, 5, 6, 0] rfl) e
      · have e := e.trans (if_pos c_29)
        exact hb_32 z0 lr lq mo n qp qm ql qv qc qe _ _ _ hE hP hD hS (lv_sub hl [1, 2, 3, 4, 5, 6, 0] rfl) e
  refine lv_aload hx hb dL_rights_0 (lv_at hl 5 rfl) ?_
  refine lv_iconst (v := 1) hx hb dL_rights_2 (by decide) ?_
  obtain ⟨hi_3, e⟩ := kv_G_e e hRz
  refine kv_iald hx hb hK hP 3 0 hi_3 dL_rights_3 rfl rfl (fun y_3 ey_3 => ?_)
  have e := kv_T_e e ey_3
  refine lv_if_ne (tgt := 11) hx hb dL_rights_4 (by decide) (fun c_4 => ?_) (fun c_4 => ?_)
  · have e := e.trans (if_neg c_4)
    refine lv_iload_n hx hb dL_rights_11 rfl (lv_at hl 2 rfl) ?_
    refine lv_aload hx hb dL_rights_12 (lv_at hl 5 rfl) ?_
    refine lv_iconst (v := 1) hx hb dL_rights_14 (by decide) ?_
    obtain ⟨hi_15, e⟩ := kv_G_e e hRz
    refine kv_iald hx hb hK hP 3 0 hi_15 dL_rights_15 rfl rfl (fun y_15 ey_15 => ?_)
    have e := kv_T_e e ey_15
    have hP : va_P D vwCl ((kv_lw ci la lm lp lr lq) ++ (kv_kw ci ad kc kh ks fo kl kp dy mo n pa aE qp qm ql qv qc qe mt mv sw hv tk tn sc)) s.heap := hP
    have hD : va_D A ((kv_lw ci la lm lp lr lq) ++ (kv_kw ci ad kc kh ks fo kl kp dy mo n pa aE qp qm ql qv qc qe mt mv sw hv tk tn sc)) := hD
    refine kv_calliF (va_runS (As := [.int p2, .int y_15]) (rest := []) ⟨hx, hb, hml, hown, hts⟩ (c_L_low l D ci la lm lp lr lq p2 y_15 (kv_q1_n e hRz) s.heap.size) (va_cwS 2 hts gL_rights_L_low rfl rfl rfl (by decide +kernel) ⟨Nat.le_of_ble_eq_true rfl, Nat.le_of_ble_eq_true rfl⟩) (kv_preS hK (kv_Pl hP) (kv_Dl hD)) rfl rfl hl.1 rfl (lv_room (Nat.le_of_ble_eq_true rfl)) dL_rights_16 ⟨Nat.le_of_ble_eq_true rfl, Nat.le_of_ble_eq_true rfl⟩) hP hD hS hA (fun r_16 u_16 H locs hw_16 hP hD hS => ?_)
    have e := kv_q1_e e hw_16
    have hP : va_P D vwCl (kv_lkw ci la ad lm lp lr lq kc kh ks fo kl kp dy mo n pa aE qp qm ql qv qc qe mt mv sw hv tk tn sc) H := hP
    have hD : va_D A (kv_lkw ci la ad lm lp lr lq kc kh ks fo kl kp dy mo n pa aE qp qm ql qv qc qe mt mv sw hv tk tn sc) := hD
    exact hb_19 r_16 lr lq mo n qp qm ql qv qc qe _ _ _ hE hP hD hS (lv_sub hl [0, 1, 2, 3, 4, 5] rfl) e
  · have e := e.trans (if_pos c_4)
    refine lv_iconst (v := 0) hx hb dL_rights_7 (by decide) ?_
    refine lv_goto (tgt := 19) hx hb dL_rights_8 (by decide) ?_
    exact hb_19 0 lr lq mo n qp qm ql qv qc qe _ _ _ hE hP hD hS (lv_sub hl [0, 1, 2, 3, 4, 5] rfl) e

def pf_L_products_55 (lq : Nat → Int32) (dy : Int32) (n : Nat) (qp : Nat → Int32) (ql : Nat → Int32) (p1 : Int32)  (x5 : Int32) (x6 : Int32) (z1 : Int32) (z2 : Int32) (z3 : Int32) (lp : Nat → Int32) (lr : Nat → Int32) (kl : Nat → Int32) (kp : Nat → Int32) (qv : Nat → Int32) : Option (Int32 × (Nat → Int32) × (Nat → Int32) × (Nat → Int32) × (Nat → Int32) × (Nat → Int32)) :=
  kv_q1 (pf_L_low z2 z3) (fun r_55 => kv_G z1 4 (kv_T (upd lp z1.toNatClampNeg r_55) (fun g_58 => kv_G ((2 * x5) + 1) 4 (kv_T (g_58 ((2 * x5) + 1).toNatClampNeg) (fun y_69 => kv_q2 (pf_X2n_setPrice x5 y_69 kp) (fun r_70 u_70 => if r_70 = x6 then some (1, g_58, lr, kl, u_70, qv) else some (0, g_58, lr, kl, u_70, qv)))))))
def pf_L_products_234 (lq : Nat → Int32) (dy : Int32) (n : Nat) (qp : Nat → Int32) (ql : Nat → Int32) (p1 : Int32)  (x5 : Int32) (x6 : Int32) (z1 : Int32) (z2 : Int32) (z3 : Int32) (lp : Nat → Int32) (lr : Nat → Int32) (kl : Nat → Int32) (kp : Nat → Int32) (qv : Nat → Int32) : Option (Int32 × (Nat → Int32) × (Nat → Int32) × (Nat → Int32) × (Nat → Int32) × (Nat → Int32)) :=
  kv_G z1 4 (kv_T (upd lp z1.toNatClampNeg (z2 + z3)) (fun g_235 => kv_q3 (pf_L_calls_1 dy n qp ql x5 0 0 0 kl qv) (fun r_243 o0_243 o1_243 => if r_243 = x6 then some (1, g_235, lr, o0_243, kp, o1_243) else some (0, g_235, lr, o0_243, kp, o1_243))))
def pf_L_products_217 (lq : Nat → Int32) (dy : Int32) (n : Nat) (qp : Nat → Int32) (ql : Nat → Int32) (p1 : Int32)  (x5 : Int32) (x6 : Int32) (lp : Nat → Int32) (lr : Nat → Int32) (kl : Nat → Int32) (kp : Nat → Int32) (qv : Nat → Int32) : Option (Int32 × (Nat → Int32) × (Nat → Int32) × (Nat → Int32) × (Nat → Int32) × (Nat → Int32)) :=
  kv_T (2 * x5) (fun y_222 => kv_G y_222 4 (kv_T (lp y_222.toNatClampNeg) (fun y_223 => if 0 ≤ x6 then pf_L_products_234 lq dy n qp ql p1 x5 x6 y_222 y_223 1 lp lr kl kp qv else pf_L_products_234 lq dy n qp ql p1 x5 x6 y_222 y_223 0 lp lr kl kp qv)))
def pf_L_products_208 (lq : Nat → Int32) (dy : Int32) (n : Nat) (qp : Nat → Int32) (ql : Nat → Int32) (p1 : Int32) (k_107 : Int32 → Int32 → Int32 → (Nat → Int32) → (Nat → Int32) → (Nat → Int32) → (Nat → Int32) → (Nat → Int32) → Option (Int32 × (Nat → Int32) × (Nat → Int32) × (Nat → Int32) × (Nat → Int32) × (Nat → Int32))) (x5 : Int32) (x7 : Int32) (z0 : Int32) (z1 : Int32) (lp : Nat → Int32) (lr : Nat → Int32) (kl : Nat → Int32) (kp : Nat → Int32) (qv : Nat → Int32) : Option (Int32 × (Nat → Int32) × (Nat → Int32) × (Nat → Int32) × (Nat → Int32) × (Nat → Int32)) :=
  kv_T (z0 + z1) (fun y_209 => k_107 x5 y_209 (x7 + 1) lp lr kl kp qv)
def pf_L_products_194 (lq : Nat → Int32) (dy : Int32) (n : Nat) (qp : Nat → Int32) (ql : Nat → Int32) (p1 : Int32) (k_107 : Int32 → Int32 → Int32 → (Nat → Int32) → (Nat → Int32) → (Nat → Int32) → (Nat → Int32) → (Nat → Int32) → Option (Int32 × (Nat → Int32) × (Nat → Int32) × (Nat → Int32) × (Nat → Int32) × (Nat → Int32))) (x5 : Int32) (x6 : Int32) (x7 : Int32) (x8 : Int32) (z1 : Int32) (z2 : Int32) (z3 : Int32) (lp : Nat → Int32) (lr : Nat → Int32) (kl : Nat → Int32) (kp : Nat → Int32) (qv : Nat → Int32) : Option (Int32 × (Nat → Int32) × (Nat → Int32) × (Nat → Int32) × (Nat → Int32) × (Nat → Int32)) :=
  kv_G z1 60 (kv_T (upd lr z1.toNatClampNeg (z2 + z3)) (fun g_195 => if x8 = 0 then pf_L_products_208 lq dy n qp ql p1 k_107 x5 x7 x6 0 lp g_195 kl kp qv else pf_L_products_208 lq dy n qp ql p1 k_107 x5 x7 x6 1 lp g_195 kl kp qv))
def pf_L_products_172 (lq : Nat → Int32) (dy : Int32) (n : Nat) (qp : Nat → Int32) (ql : Nat → Int32) (p1 : Int32) (k_107 : Int32 → Int32 → Int32 → (Nat → Int32) → (Nat → Int32) → (Nat → Int32) → (Nat → Int32) → (Nat → Int32) → Option (Int32 × (Nat → Int32) × (Nat → Int32) × (Nat → Int32) × (Nat → Int32) × (Nat → Int32))) (x5 : Int32) (x6 : Int32) (x7 : Int32) (z0 : Int32) (lp : Nat → Int32) (lr : Nat → Int32) (kl : Nat → Int32) (kp : Nat → Int32) (qv : Nat → Int32) : Option (Int32 × (Nat → Int32) × (Nat → Int32) × (Nat → Int32) × (Nat → Int32) × (Nat → Int32)) :=
  kv_T ((6 * x7) + 4) (fun y_182 => kv_G y_182 60 (kv_T (lr y_182.toNatClampNeg) (fun y_183 => if z0 = 0 then pf_L_products_194 lq dy n qp ql p1 k_107 x5 x6 x7 z0 y_182 y_183 0 lp lr kl kp qv else pf_L_products_194 lq dy n qp ql p1 k_107 x5 x6 x7 z0 y_182 y_183 1 lp lr kl kp qv)))
def pf_L_products_107b (lq : Nat → Int32) (dy : Int32) (n : Nat) (qp : Nat → Int32) (ql : Nat → Int32) (p1 : Int32)  (k_107 : Int32 → Int32 → Int32 → (Nat → Int32) → (Nat → Int32) → (Nat → Int32) → (Nat → Int32) → (Nat → Int32) → Option (Int32 × (Nat → Int32) × (Nat → Int32) × (Nat → Int32) × (Nat → Int32) × (Nat → Int32))) (x5 : Int32) (x6 : Int32) (x7 : Int32) (lp : Nat → Int32) (lr : Nat → Int32) (kl : Nat → Int32) (kp : Nat → Int32) (qv : Nat → Int32) : Option (Int32 × (Nat → Int32) × (Nat → Int32) × (Nat → Int32) × (Nat → Int32) × (Nat → Int32)) :=
  kv_G (1 : Int32) 3 (kv_T (lq (1 : Int32).toNatClampNeg) (fun y_112 => if y_112 ≤ x7 then pf_L_products_217 lq dy n qp ql p1 x5 x6 lp lr kl kp qv else if x6 < 0 then pf_L_products_217 lq dy n qp ql p1 x5 x6 lp lr kl kp qv else kv_G (6 * x7) 60 (kv_T (lr (6 * x7).toNatClampNeg) (fun y_127 => if y_127 = x5 then kv_G ((6 * x7) + 4) 60 (kv_T (lr ((6 * x7) + 4).toNatClampNeg) (fun y_141 => kv_G (2 * x5) 4 (kv_T (lp (2 * x5).toNatClampNeg) (fun y_147 => if y_141 = y_147 then kv_G ((6 * x7) + 5) 60 (kv_T (lr ((6 * x7) + 5).toNatClampNeg) (fun y_159 => kv_G (0 : Int32) 3 (kv_T (lq (0 : Int32).toNatClampNeg) (fun y_163 => if y_159 < y_163 then pf_L_products_172 lq dy n qp ql p1 k_107 x5 x6 x7 0 lp lr kl kp qv else pf_L_products_172 lq dy n qp ql p1 k_107 x5 x6 x7 1 lp lr kl kp qv)))) else pf_L_products_172 lq dy n qp ql p1 k_107 x5 x6 x7 0 lp lr kl kp qv)))) else pf_L_products_172 lq dy n qp ql p1 k_107 x5 x6 x7 0 lp lr kl kp qv))))
def pf_L_products_107 (lq : Nat → Int32) (dy : Int32) (n : Nat) (qp : Nat → Int32) (ql : Nat → Int32) (p1 : Int32)  : Nat → Int32 → Int32 → Int32 → (Nat → Int32) → (Nat → Int32) → (Nat → Int32) → (Nat → Int32) → (Nat → Int32) → Option (Int32 × (Nat → Int32) × (Nat → Int32) × (Nat → Int32) × (Nat → Int32) × (Nat → Int32))
  | 0, _, _, _, _, _, _, _, _ => none
  | nn + 1, x5, x6, x7, lp, lr, kl, kp, qv => pf_L_products_107b lq dy n qp ql p1  (pf_L_products_107 lq dy n qp ql p1  nn) x5 x6 x7 lp lr kl kp qv
def pf_L_products_102 (lq : Nat → Int32) (dy : Int32) (n : Nat) (qp : Nat → Int32) (ql : Nat → Int32) (p1 : Int32)  (x5 : Int32) (z0 : Int32) (lp : Nat → Int32) (lr : Nat → Int32) (kl : Nat → Int32) (kp : Nat → Int32) (qv : Nat → Int32) : Option (Int32 × (Nat → Int32) × (Nat → Int32) × (Nat → Int32) × (Nat → Int32) × (Nat → Int32)) :=
  pf_L_products_107 lq dy n qp ql p1 kv_F x5 z0 0 lp lr kl kp qv
def pf_L_products (lq : Nat → Int32) (dy : Int32) (n : Nat) (qp : Nat → Int32) (ql : Nat → Int32) (p1 : Int32) (lp : Nat → Int32) (lr : Nat → Int32) (kl : Nat → Int32) (kp : Nat → Int32) (qv : Nat → Int32) : Option (Int32 × (Nat → Int32) × (Nat → Int32) × (Nat → Int32) × (Nat → Int32) × (Nat → Int32)) :=
  kv_q1 (pf_L_low p1 2) (fun r_2 => kv_q1 (pf_L_low (p1 >>> (1 &&& 31)) 3) (fun r_11 => if r_11 = 0 then kv_G ((2 * r_2) + 1) 4 (kv_T (lp ((2 * r_2) + 1).toNatClampNeg) (fun y_24 => kv_q1 (pf_L_low (p1 >>> (13 &&& 31)) 3) (fun r_42 => if r_42 = 0 then pf_L_products_55 lq dy n qp ql p1 r_2 y_24 ((2 * r_2) + 1) (p1 >>> (3 &&& 31)) 1001 lp lr kl kp qv else pf_L_products_55 lq dy n qp ql p1 r_2 y_24 ((2 * r_2) + 1) (p1 >>> (3 &&& 31)) 5 lp lr kl kp qv))) else kv_G (2 * r_2) 4 (kv_T (lp (2 * r_2).toNatClampNeg) (fun y_89 => if y_89 = 9 then pf_L_products_102 lq dy n qp ql p1 r_2 (-2003) lp lr kl kp qv else pf_L_products_102 lq dy n qp ql p1 r_2 0 lp lr kl kp qv))))
abbrev rmL_products : Room := { frames := 9, cells := 2, slots := 12, locals := 153 }
set_option maxHeartbeats 8000000 in
set_option maxRecDepth 100000 in
theorem c_L_products (l : Launch) (hl9 : l.stackTraces = false) (D : va_G) (ci la ad : Nat → Nat) (aS : Nat) (lm : Nat → Int32) (lp : Nat → Int32) (lr : Nat → Int32) (lq : Nat → Int32) (kc : Nat → Int32) (kh : Nat → Int32) (ks : Nat → Int32) (fo : Nat → Nat → Int32) (kl : Nat → Int32) (kp : Nat → Int32) (dy : Int32) (mo : Int32) (n : Nat) (pa : Nat → Nat) (aE : Nat) (qp : Nat → Int32) (qm : Nat → Int32) (ql : Nat → Int32) (qv : Nat → Int32) (qc : Nat → Int32) (qe : Nat → Int32) (mt : Nat → Int32) (mv : Nat → Int32) (sw : Nat → Int32) (hv : Int32) (tk : Nat → Int32) (tn : Nat → Int32) (sc : Nat → Int32) (p1 : Int32) (hRn : pf_L_products lq dy n qp ql p1 lp lr kl kp qv ≠ none) (sz : Nat) : Met l yL_products wsL_products rmL_products (va_Pc [.ref (ad 0), .int p1, .ref (la 1), .ref (la 2), .ref (la 3)] (kv_preW D ci aS (kv_lkw ci la ad lm lp lr lq kc kh ks fo kl kp dy mo n pa aE qp qm ql qv qc qe mt mv sw hv tk tn sc) sz)) (va_Qi (fun (r : Int32) (u : (Nat → Int32) × (Nat → Int32) × (Nat → Int32) × (Nat → Int32) × (Nat → Int32)) => pf_L_products lq dy n qp ql p1 lp lr kl kp qv = some (r, u.1, u.2.1, u.2.2.1, u.2.2.2.1, u.2.2.2.2)) (fun u t => kv_post D (kv_lkw ci la ad lm lp lr lq kc kh ks fo kl kp dy mo n pa aE qp qm ql qv qc qe mt mv sw hv tk tn sc) sz (kv_lkw ci la ad lm u.1 u.2.1 lq kc kh ks fo u.2.2.1 u.2.2.2.1 dy mo n pa aE qp qm ql u.2.2.2.2 qc qe mt mv sw hv tk tn sc) t) (va_A (kv_lkw ci la ad lm lp lr lq kc kh ks fo kl kp dy mo n pa aE qp qm ql qv qc qe mt mv sw hv tk tn sc) sz)) 2 12 (va_A (kv_lkw ci la ad lm lp lr lq kc kh ks fo kl kp dy mo n pa aE qp qm ql qv qc qe mt mv sw hv tk tn sc) sz) := by
  refine Met.ofW (cc := cL_products) (maxL := 9) (ret := (some .boolean)) (by decide) rfl ?_
  intro p en s m args below meth c s₁ B hml hv
  obtain ⟨hv0, ⟨⟨⟨hsz, hP, hK, hD0⟩, hT⟩, hT2⟩, hN⟩ := hv
  have hx := B.exec
  have hb := B.bytes
  have hr := B.returns
  have hts := atoms_spec (ws := wsL_products) B.pre
  have hown : s.vm.findClass RL = some m.cls := findClass_of_methodNamed B.named
  have hlocks := B.notSynchronized
  subst hsz
  have hD := hD0.self (sz := s.heap.size)
  generalize hAe : va_A (kv_lkw ci la ad lm lp lr lq kc kh ks fo kl kp dy mo n pa aE qp qm ql qv qc qe mt mv sw hv tk tn sc) s.heap.size = A at hD hT hT2 ⊢
  have hA : ∀ q : Nat, s.heap.size ≤ q → A q := fun q h => by rw [← hAe]; exact Or.inr h
  have hS : va_S A s.heap s.heap [] := va_S.rf
  have hP : va_P D vwCl (kv_lkw ci la ad lm lp lr lq kc kh ks fo kl kp dy mo n pa aE qp qm ql qv qc qe mt mv sw hv tk tn sc) s.heap := hP
  generalize hRd : pf_L_products lq dy n qp ql p1 lp lr kl kp qv = Rz at hRn
  have hRz := hRn
  refine kv_Q (fun Q hQ => ?_)
  refine W.eq (show entryFrame m args 9 = _ from by rw [hv0, lg_entry_eq]) ?_
  have hl := lv_entry ([.ref (ad 0), .int p1, .ref (la 1), .ref (la 2), .ref (la 3)]) (n := 9) (Nat.le_of_ble_eq_true rfl)
  generalize (lg_sl ([.ref (ad 0), .int p1, .ref (la 1), .ref (la 2), .ref (la 3)]) ++ List.replicate (9 - (lg_sl ([.ref (ad 0), .int p1, .ref (la 1), .ref (la 2), .ref (la 3)])).length) Slot.unset).toArray = ls at hl ⊢
  have hl : lv_has ls 9 [(0, .ref (ad 0)), (1, .int p1), (2, .ref (la 1)), (3, .ref (la 2)), (4, .ref (la 3))] := hl
  have e : Rz = pf_L_products lq dy n qp ql p1 lp lr kl kp qv := hRd.symm
  rw [pf_L_products] at e
  have hb_55 : ∀ (x5 : Int32) (x6 : Int32) (z1 : Int32) (z2 : Int32) (z3 : Int32) (lp : Nat → Int32) (lr : Nat → Int32) (kl : Nat → Int32) (kp : Nat → Int32) (qv : Nat → Int32) (H : Heap) (locs : List Loc) (ls : Array Slot), va_P D vwCl (kv_lkw ci la ad lm lp lr lq kc kh ks fo kl kp dy mo n pa aE qp qm ql qv qc qe mt mv sw hv tk tn sc) H → va_D A (kv_lkw ci la ad lm lp lr lq kc kh ks fo kl kp dy mo n pa aE qp qm ql qv qc qe mt mv sw hv tk tn sc) → va_S A s.heap H locs → lv_has ls 9 [(0, .ref (ad 0)), (2, .ref (la 1)), (5, .int x5), (6, .int x6)] → Rz = pf_L_products_55 lq dy n qp ql p1  x5 x6 z1 z2 z3 lp lr kl kp qv → W p l en rmL_products s m args below meth c H locs 0 0 Q (F0 m 55 ls [.int z3, .int z2, .int z1, .ref (la 1)]) := by
    intro x5 x6 z1 z2 z3 lp lr kl kp qv H locs ls  hP hD hS hl e
    rw [pf_L_products_55] at e
    have hP : va_P D vwCl ((kv_lw ci la lm lp lr lq) ++ (kv_kw ci ad kc kh ks fo kl kp dy mo n pa aE qp qm ql qv qc qe mt mv sw hv tk tn sc)) H := hP
    have hD : va_D A ((kv_lw ci la lm lp lr lq) ++ (kv_kw ci ad kc kh ks fo kl kp dy mo n pa aE qp qm ql qv qc qe mt mv sw hv tk tn sc)) := hD
    refine kv_calliF (va_runS (As := [.int z2, .int z3]) (rest := [.int z1, .ref (la 1)]) ⟨hx, hb, hml, hown, hts⟩ (c_L_low l D ci la lm lp lr lq z2 z3 (kv_q1_n e hRz) H.size) (va_cwS 2 hts gL_products_L_low rfl rfl rfl (by decide +kernel) ⟨Nat.le_of_ble_eq_true rfl, Nat.le_of_ble_eq_true rfl⟩) (kv_preS hK (kv_Pl hP) (kv_Dl hD)) rfl rfl hl.1 rfl (lv_room (Nat.le_of_ble_eq_true rfl)) dL_products_55 ⟨Nat.le_of_ble_eq_true rfl, Nat.le_of_ble_eq_true rfl⟩) hP hD hS hA (fun r_55 u_55 H locs hw_55 hP hD hS => ?_)
    have e := kv_q1_e e hw_55
    have hP : va_P D vwCl (kv_lkw ci la ad lm lp lr lq kc kh ks fo kl kp dy mo n pa aE qp qm ql qv qc qe mt mv sw hv tk tn sc) H := hP
    have hD : va_D A (kv_lkw ci la ad lm lp lr lq kc kh ks fo kl kp dy mo n pa aE qp qm ql qv qc qe mt mv sw hv tk tn sc) := hD
    obtain ⟨hi_58, e⟩ := kv_G_e e hRz
    refine kv_iast hx hb hK hP hD hS 1 0 (fun g_58 => (kv_lkw ci la ad lm g_58 lr lq kc kh ks fo kl kp dy mo n pa aE qp qm ql qv qc qe mt mv sw hv tk tn sc)) hi_58 dL_products_58 rfl rfl (fun _ => rfl) (fun g_58 H locs eg_58 hP hD hS => ?_)
    have e := kv_T_e e eg_58
    refine lv_aload_n hx hb dL_products_59 rfl (lv_at hl 0 rfl) ?_
    refine lv_iload hx hb dL_products_60 (lv_at hl 2 rfl) ?_
    refine lv_aload_n hx hb dL_products_62 rfl (lv_at hl 1 rfl) ?_
    refine lv_iconst (v := 2) hx hb dL_products_63 (by decide) ?_
    refine lv_iload hx hb dL_products_64 (lv_at hl 2 rfl) ?_
    refine lv_imul hx hb dL_products_66 ?_
    refine lv_iconst (v := 1) hx hb dL_products_67 (by decide) ?_
    refine lv_iadd hx hb dL_products_68 ?_
    obtain ⟨hi_69, e⟩ := kv_G_e e hRz
    refine kv_iald hx hb hK hP 1 0 hi_69 dL_products_69 rfl rfl (fun y_69 ey_69 => ?_)
    have e := kv_T_e e ey_69
    have hP : va_P D vwCl ((kv_kw ci ad kc kh ks fo kl kp dy mo n pa aE qp qm ql qv qc qe mt mv sw hv tk tn sc) ++ (kv_lw ci la lm g_58 lr lq)) H := kv_commP hP
    have hD : va_D A ((kv_kw ci ad kc kh ks fo kl kp dy mo n pa aE qp qm ql qv qc qe mt mv sw hv tk tn sc) ++ (kv_lw ci la lm g_58 lr lq)) := kv_commD hD
    refine kv_calliF (va_runV (As := [.int x5, .int y_69]) (rest := []) ⟨hx, hb, hml, hown, hts⟩ (c_X2n_setPrice l D ci ad kc kh ks fo kl kp dy mo n pa aE qp qm ql qv qc qe mt mv sw hv tk tn sc x5 y_69 (kv_q2_n e hRz) H.size) (cwV 2 hts gL_products_X2_setPrice rfl rfl rfl (by decide +kernel) ⟨Nat.le_of_ble_eq_true rfl, Nat.le_of_ble_eq_true rfl⟩) (kv_preV hK (kv_Pl hP) (kv_Dl hD) (r := (RX2, TX2, 9)) (q0 := 0) (k := 3) rfl rfl rfl) rfl rfl hl.1 rfl (lv_room (Nat.le_of_ble_eq_true rfl)) dL_products_70 ⟨Nat.le_of_ble_eq_true rfl, Nat.le_of_ble_eq_true rfl⟩) hP hD hS hA (fun r_70 u_70 H locs hw_70 hP hD hS => ?_)
    have e := kv_q2_e e hw_70
    have hP : va_P D vwCl (kv_lkw ci la ad lm g_58 lr lq kc kh ks fo kl u_70 dy mo n pa aE qp qm ql qv qc qe mt mv sw hv tk tn sc) H := kv_commP hP
    have hD : va_D A (kv_lkw ci la ad lm g_58 lr lq kc kh ks fo kl u_70 dy mo n pa aE qp qm ql qv qc qe mt mv sw hv tk tn sc) := kv_commD hD
    refine lv_iload hx hb dL_products_73 (lv_at hl 3 rfl) ?_
    refine lv_icmp_ne (tgt := 82) hx hb dL_products_75 (by decide) (fun c_75 => ?_) (fun c_75 => ?_)
    · have e := e.trans (if_neg c_75)
      refine lv_iconst (v := 0) hx hb dL_products_82 (by decide) ?_
      rw [hQ]
      refine W.widen (k := 2) (n := 12) (Nat.le_of_ble_eq_true rfl) (Nat.le_of_ble_eq_true rfl) ?_
      exact W.zret (v := 0) hx hb hr (by decide +kernel) (fun t ht hW => ⟨⟨0, (g_58, lr, kl, u_70, qv), rfl, e, ⟨by rw [ht]; exact hP, by rw [hAe]; exact hD⟩⟩, hS.F ht⟩) hS.2.2 dL_products_83
    · have e := e.trans (if_pos c_75)
      refine lv_iconst (v := 1) hx hb dL_products_78 (by decide) ?_
      refine lv_goto (tgt := 83) hx hb dL_products_79 (by decide) ?_
      rw [hQ]
      refine W.widen (k := 2) (n := 12) (Nat.le_of_ble_eq_true rfl) (Nat.le_of_ble_eq_true rfl) ?_
      exact W.zret (v := 1) hx hb hr (by decide +kernel) (fun t ht hW => ⟨⟨1, (g_58, lr, kl, u_70, qv), rfl, e, ⟨by rw [ht]; exact hP, by rw [hAe]; exact hD⟩⟩, hS.F ht⟩) hS.2.2 dL_products_83
  have hb_234 : ∀ (x5 : Int32) (x6 : Int32) (z1 : Int32) (z2 : Int32) (z3 : Int32) (lp : Nat → Int32) (lr : Nat → Int32) (kl : Nat → Int32) (kp : Nat → Int32) (qv : Nat → Int32) (H : Heap) (locs : List Loc) (ls : Array Slot), va_P D vwCl (kv_lkw ci la ad lm lp lr lq kc kh ks fo kl kp dy mo n pa aE qp qm ql qv qc qe mt mv sw hv tk tn sc) H → va_D A (kv_lkw ci la ad lm lp lr lq kc kh ks fo kl kp dy mo n pa aE qp qm ql qv qc qe mt mv sw hv tk tn sc) → va_S A s.heap H locs → lv_has ls 9 [(0, .ref (ad 0)), (5, .int x5), (6, .int x6)] → Rz = pf_L_products_234 lq dy n qp ql p1  x5 x6 z1 z2 z3 lp lr kl kp qv → W p l en rmL_products s m args below meth c H locs 0 0 Q (F0 m 234 ls [.int z3, .int z2, .int z1, .ref (la 1)]) := by
    intro x5 x6 z1 z2 z3 lp lr kl kp qv H locs ls  hP hD hS hl e
    rw [pf_L_products_234] at e
    refine lv_iadd hx hb dL_products_234 ?_
    obtain ⟨hi_235, e⟩ := kv_G_e e hRz
    refine kv_iast hx hb hK hP hD hS 1 0 (fun g_235 => (kv_lkw ci la ad lm g_235 lr lq kc kh ks fo kl kp dy mo n pa aE qp qm ql qv qc qe mt mv sw hv tk tn sc)) hi_235 dL_products_235 rfl rfl (fun _ => rfl) (fun g_235 H locs eg_235 hP hD hS => ?_)
    have e := kv_T_e e eg_235
    refine lv_aload_n hx hb dL_products_236 rfl (lv_at hl 0 rfl) ?_
    refine lv_iconst (v := 1) hx hb dL_products_237 (by decide) ?_
    refine lv_iload hx hb dL_products_238 (lv_at hl 1 rfl) ?_
    refine lv_iconst (v := 0) hx hb dL_products_240 (by decide) ?_
    refine lv_iconst (v := 0) hx hb dL_products_241 (by decide) ?_
    refine lv_iconst (v := 0) hx hb dL_products_242 (by decide) ?_
    have hP : va_P D vwCl ((kv_kw ci ad kc kh ks fo kl kp dy mo n pa aE qp qm ql qv qc qe mt mv sw hv tk tn sc) ++ (kv_lw ci la lm g_235 lr lq)) H := kv_commP hP
    have hD : va_D A ((kv_kw ci ad kc kh ks fo kl kp dy mo n pa aE qp qm ql qv qc qe mt mv sw hv tk tn sc) ++ (kv_lw ci la lm g_235 lr lq)) := kv_commD hD
    refine kv_calliF (vx_runSW (As := [.ref (ad 0), .int 1, .int x5, .int 0, .int 0, .int 0]) (rest := []) ⟨hx, hb, hml, hown, hts⟩ (c_L_calls_1 l hl9 D ci ad aS kc kh ks fo kl kp dy mo n pa aE qp qm ql qv qc qe mt mv sw hv tk tn sc x5 0 0 0 (kv_q3_n e hRz) H.size) (vx_cwSW 6 hts gL_products_L_calls rfl rfl rfl (by decide +kernel) ⟨Nat.le_of_ble_eq_true rfl, Nat.le_of_ble_eq_true rfl⟩) (kv_preSW hK (kv_Pl hP) (kv_Dl hD) hT hT2 hN hS hA) rfl rfl hl.1 rfl (lv_room (Nat.le_of_ble_eq_true rfl)) dL_products_243 ⟨Nat.le_of_ble_eq_true rfl, Nat.le_of_ble_eq_true rfl⟩) hP hD hS hA (fun r_243 u_243 H locs hw_243 hP hD hS => ?_)
    obtain ⟨o0_243, o1_243⟩ := u_243
    have e := kv_q3_e e hw_243
    have hP : va_P D vwCl (kv_lkw ci la ad lm g_235 lr lq kc kh ks fo o0_243 kp dy mo n pa aE qp qm ql o1_243 qc qe mt mv sw hv tk tn sc) H := kv_commP hP
    have hD : va_D A (kv_lkw ci la ad lm g_235 lr lq kc kh ks fo o0_243 kp dy mo n pa aE qp qm ql o1_243 qc qe mt mv sw hv tk tn sc) := kv_commD hD
    refine lv_iload hx hb dL_products_246 (lv_at hl 2 rfl) ?_
    refine lv_icmp_ne (tgt := 255) hx hb dL_products_248 (by decide) (fun c_248 => ?_) (fun c_248 => ?_)
    · have e := e.trans (if_neg c_248)
      refine lv_iconst (v := 0) hx hb dL_products_255 (by decide) ?_
      rw [hQ]
      exact W.zret (v := 0) hx hb hr (by decide +kernel) (fun t ht hW => ⟨⟨0, (g_235, lr, o0_243, kp, o1_243), rfl, e, ⟨by rw [ht]; exact hP, by rw [hAe]; exact hD⟩⟩, hS.F ht⟩) hS.2.2 dL_products_256
    · have e := e.trans (if_pos c_248)
      refine lv_iconst (v := 1) hx hb dL_products_251 (by decide) ?_
      refine lv_goto (tgt := 256) hx hb dL_products_252 (by decide) ?_
      rw [hQ]
      exact W.zret (v := 1) hx hb hr (by decide +kernel) (fun t ht hW => ⟨⟨1, (g_235, lr, o0_243, kp, o1_243), rfl, e, ⟨by rw [ht]; exact hP, by rw [hAe]; exact hD⟩⟩, hS.F ht⟩) hS.2.2 dL_products_256
  have hb_217 : ∀ (x5 : Int32) (x6 : Int32) (lp : Nat → Int32) (lr : Nat → Int32) (kl : Nat → Int32) (kp : Nat → Int32) (qv : Nat → Int32) (H : Heap) (locs : List Loc) (ls : Array Slot), va_P D vwCl (kv_lkw ci la ad lm lp lr lq kc kh ks fo kl kp dy mo n pa aE qp qm ql qv qc qe mt mv sw hv tk tn sc) H → va_D A (kv_lkw ci la ad lm lp lr lq kc kh ks fo kl kp dy mo n pa aE qp qm ql qv qc qe mt mv sw hv tk tn sc) → va_S A s.heap H locs → lv_has ls 9 [(0, .ref (ad 0)), (2, .ref (la 1)), (5, .int x5), (6, .int x6)] → Rz = pf_L_products_217 lq dy n qp ql p1  x5 x6 lp lr kl kp qv → W p l en rmL_products s m args below meth c H locs 0 0 Q (F0 m 217 ls []) := by
    intro x5 x6 lp lr kl kp qv H locs ls  hP hD hS hl e
    rw [pf_L_products_217] at e
    refine lv_aload_n hx hb dL_products_217 rfl (lv_at hl 1 rfl) ?_
    refine lv_iconst (v := 2) hx hb dL_products_218 (by decide) ?_
    refine lv_iload hx hb dL_products_219 (lv_at hl 2 rfl) ?_
    refine lv_imul hx hb dL_products_221 ?_
    refine lv_topi (fun y_222 ey_222 => ?_)
    have e := kv_T_e e ey_222
    refine lv_dup2_11 hx hb dL_products_222 rfl rfl ?_
    obtain ⟨hi_223, e⟩ := kv_G_e e hRz
    refine kv_iald hx hb hK hP 1 0 hi_223 dL_products_223 rfl rfl (fun y_223 ey_223 => ?_)
    have e := kv_T_e e ey_223
    refine lv_iload hx hb dL_products_224 (lv_at hl 3 rfl) ?_
    refine lv_if_ge (tgt := 233) hx hb dL_products_226 (by decide) (fun c_226 => ?_) (fun c_226 => ?_)
    · have e := e.trans (if_pos c_226)
      refine lv_iconst (v := 1) hx hb dL_products_233 (by decide) ?_
      exact hb_234 x5 x6 y_222 y_223 1 lp lr kl kp qv _ _ _  hP hD hS (lv_sub hl [0, 2, 3] rfl) e
    · have e := e.trans (if_neg c_226)
      refine lv_iconst (v := 0) hx hb dL_products_229 (by decide) ?_
      refine lv_goto (tgt := 234) hx hb dL_products_230 (by decide) ?_
      exact hb_234 x5 x6 y_222 y_223 0 lp lr kl kp qv _ _ _  hP hD hS (lv_sub hl [0, 2, 3] rfl) e
  have hb_107 : ∀ (n_107 : Nat), ∀ (x5 : Int32) (x6 : Int32) (x7 : Int32) (lp : Nat → Int32) (lr : Nat → Int32) (kl : Nat → Int32) (kp : Nat → Int32) (qv : Nat → Int32) (H : Heap) (locs : List Loc) (ls : Array Slot), va_P D vwCl (kv_lkw ci la ad lm lp lr lq kc kh ks fo kl kp dy mo n pa aE qp qm ql qv qc qe mt mv sw hv tk tn sc) H → va_D A (kv_lkw ci la ad lm lp lr lq kc kh ks fo kl kp dy mo n pa aE qp qm ql qv qc qe mt mv sw hv tk tn sc) → va_S A s.heap H locs → lv_has ls 9 [(0, .ref (ad 0)), (2, .ref (la 1)), (3, .ref (la 2)), (4, .ref (la 3)), (5, .int x5), (6, .int x6), (7, .int x7)] → Rz = pf_L_products_107 lq dy n qp ql p1  n_107 x5 x6 x7 lp lr kl kp qv → W p l en rmL_products s m args below meth c H locs 0 0 Q (F0 m 107 ls []) := by
    intro n_107
    induction n_107 with
    | zero =>
      intro x5 x6 x7 lp lr kl kp qv H locs ls  _ _ _ _ e
      exact absurd e hRz
    | succ n_107 ih_107 =>
      have hb_208 : ∀ (x5 : Int32) (x7 : Int32) (z0 : Int32) (z1 : Int32) (lp : Nat → Int32) (lr : Nat → Int32) (kl : Nat → Int32) (kp : Nat → Int32) (qv : Nat → Int32) (H : Heap) (locs : List Loc) (ls : Array Slot), va_P D vwCl (kv_lkw ci la ad lm lp lr lq kc kh ks fo kl kp dy mo n pa aE qp qm ql qv qc qe mt mv sw hv tk tn sc) H → va_D A (kv_lkw ci la ad lm lp lr lq kc kh ks fo kl kp dy mo n pa aE qp qm ql qv qc qe mt mv sw hv tk tn sc) → va_S A s.heap H locs → lv_has ls 9 [(0, .ref (ad 0)), (2, .ref (la 1)), (3, .ref (la 2)), (4, .ref (la 3)), (5, .int x5), (7, .int x7)] → Rz = pf_L_products_208 lq dy n qp ql p1 (pf_L_products_107 lq dy n qp ql p1  n_107) x5 x7 z0 z1 lp lr kl kp qv → W p l en rmL_products s m args below meth c H locs 0 0 Q (F0 m 208 ls [.int z1, .int z0]) := by
        intro x5 x7 z0 z1 lp lr kl kp qv H locs ls  hP hD hS hl e
        rw [pf_L_products_208] at e
        refine lv_iadd hx hb dL_products_208 ?_
        refine lv_topi (fun y_209 ey_209 => ?_)
        have e := kv_T_e e ey_209
        refine lv_istore (lv' := [(6, .int y_209), (0, .ref (ad 0)), (2, .ref (la 1)), (3, .ref (la 2)), (4, .ref (la 3)), (5, .int x5), (7, .int x7)]) hx hb dL_products_209 hl (by decide) rfl (fun ls hl => ?_)
        refine lv_iinc (v := x7 + 1) (lv' := [(7, .int (x7 + 1)), (6, .int y_209), (0, .ref (ad 0)), (2, .ref (la 1)), (3, .ref (la 2)), (4, .ref (la 3)), (5, .int x5)]) hx hb dL_products_211 hl (k := 6) rfl rfl (by decide) rfl (fun ls hl => ?_)
        refine lv_goto (tgt := 107) hx hb dL_products_214 (by decide) ?_
        exact ih_107 x5 y_209 (x7 + 1) lp lr kl kp qv _ _ _  hP hD hS (lv_sub hl [2, 3, 4, 5, 6, 1, 0] rfl) e
      have hb_194 : ∀ (x5 : Int32) (x6 : Int32) (x7 : Int32) (x8 : Int32) (z1 : Int32) (z2 : Int32) (z3 : Int32) (lp : Nat → Int32) (lr : Nat → Int32) (kl : Nat → Int32) (kp : Nat → Int32) (qv : Nat → Int32) (H : Heap) (locs : List Loc) (ls : Array Slot), va_P D vwCl (kv_lkw ci la ad lm lp lr lq kc kh ks fo kl kp dy mo n pa aE qp qm ql qv qc qe mt mv sw hv tk tn sc) H → va_D A (kv_lkw ci la ad lm lp lr lq kc kh ks fo kl kp dy mo n pa aE qp qm ql qv qc qe mt mv sw hv tk tn sc) → va_S A s.heap H locs → lv_has ls 9 [(0, .ref (ad 0)), (2, .ref (la 1)), (3, .ref (la 2)), (4, .ref (la 3)), (5, .int x5), (6, .int x6), (7, .int x7), (8, .int x8)] → Rz = pf_L_products_194 lq dy n qp ql p1 (pf_L_products_107 lq dy n qp ql p1  n_107) x5 x6 x7 x8 z1 z2 z3 lp lr kl kp qv → W p l en rmL_products s m args below meth c H locs 0 0 Q (F0 m 194 ls [.int z3, .int z2, .int z1, .ref (la 2)]) := by
        intro x5 x6 x7 x8 z1 z2 z3 lp lr kl kp qv H locs ls  hP hD hS hl e
        rw [pf_L_products_194] at e
        refine lv_iadd hx hb dL_products_194 ?_
        obtain ⟨hi_195, e⟩ := kv_G_e e hRz
        refine kv_iast hx hb hK hP hD hS 2 0 (fun g_195 => (kv_lkw ci la ad lm lp g_195 lq kc kh ks fo kl kp dy mo n pa aE qp qm ql qv qc qe mt mv sw hv tk tn sc)) hi_195 dL_products_195 rfl rfl (fun _ => rfl) (fun g_195 H locs eg_195 hP hD hS => ?_)
        have e := kv_T_e e eg_195
        refine lv_iload hx hb dL_products_196 (lv_at hl 5 rfl) ?_
        refine lv_iload hx hb dL_products_198 (lv_at hl 7 rfl) ?_
        refine lv_if_eq (tgt := 207) hx hb dL_products_200 (by decide) (fun c_200 => ?_) (fun c_200 => ?_)
        · have e := e.trans (if_pos c_200)
          refine lv_iconst (v := 0) hx hb dL_products_207 (by decide) ?_
          exact hb_208 x5 x7 x6 0 lp g_195 kl kp qv _ _ _  hP hD hS (lv_sub hl [0, 1, 2, 3, 4, 6] rfl) e
        · have e := e.trans (if_neg c_200)
          refine lv_iconst (v := 1) hx hb dL_products_203 (by decide) ?_
          refine lv_goto (tgt := 208) hx hb dL_products_204 (by decide) ?_
          exact hb_208 x5 x7 x6 1 lp g_195 kl kp qv _ _ _  hP hD hS (lv_sub hl [0, 1, 2, 3, 4, 6] rfl) e
      have hb_172 : ∀ (x5 : Int32) (x6 : Int32) (x7 : Int32) (z0 : Int32) (lp : Nat → Int32) (lr : Nat → Int32) (kl : Nat → Int32) (kp : Nat → Int32) (qv : Nat → Int32) (H : Heap) (locs : List Loc) (ls : Array Slot), va_P D vwCl (kv_lkw ci la ad lm lp lr lq kc kh ks fo kl kp dy mo n pa aE qp qm ql qv qc qe mt mv sw hv tk tn sc) H → va_D A (kv_lkw ci la ad lm lp lr lq kc kh ks fo kl kp dy mo n pa aE qp qm ql qv qc qe mt mv sw hv tk tn sc) → va_S A s.heap H locs → lv_has ls 9 [(0, .ref (ad 0)), (2, .ref (la 1)), (3, .ref (la 2)), (4, .ref (la 3)), (5, .int x5), (6, .int x6), (7, .int x7)] → Rz = pf_L_products_172 lq dy n qp ql p1 (pf_L_products_107 lq dy n qp ql p1  n_107) x5 x6 x7 z0 lp lr kl kp qv → W p l en rmL_products s m args below meth c H locs 0 0 Q (F0 m 172 ls [.int z0]) := by
        intro x5 x6 x7 z0 lp lr kl kp qv H locs ls  hP hD hS hl e
        rw [pf_L_products_172] at e
        refine lv_istore (lv' := [(8, .int z0), (0, .ref (ad 0)), (2, .ref (la 1)), (3, .ref (la 2)), (4, .ref (la 3)), (5, .int x5), (6, .int x6), (7, .int x7)]) hx hb dL_products_172 hl (by decide) rfl (fun ls hl => ?_)
        refine lv_aload_n hx hb dL_products_174 rfl (lv_at hl 3 rfl) ?_
        refine lv_bipush (v := 6) hx hb dL_products_175 (by decide) ?_
        refine lv_iload hx hb dL_products_177 (lv_at hl 7 rfl) ?_
        refine lv_imul hx hb dL_products_179 ?_
        refine lv_iconst (v := 4) hx hb dL_products_180 (by decide) ?_
        refine lv_iadd hx hb dL_products_181 ?_
        refine lv_topi (fun y_182 ey_182 => ?_)
        have e := kv_T_e e ey_182
        refine lv_dup2_11 hx hb dL_products_182 rfl rfl ?_
        obtain ⟨hi_183, e⟩ := kv_G_e e hRz
        refine kv_iald hx hb hK hP 2 0 hi_183 dL_products_183 rfl rfl (fun y_183 ey_183 => ?_)
        have e := kv_T_e e ey_183
        refine lv_iload hx hb dL_products_184 (lv_at hl 0 rfl) ?_
        refine lv_if_eq (tgt := 193) hx hb dL_products_186 (by decide) (fun c_186 => ?_) (fun c_186 => ?_)
        · have e := e.trans (if_pos c_186)
          refine lv_iconst (v := 0) hx hb dL_products_193 (by decide) ?_
          exact hb_194 x5 x6 x7 z0 y_182 y_183 0 lp lr kl kp qv _ _ _  hP hD hS (lv_sub hl [1, 2, 3, 4, 5, 6, 7, 0] rfl) e
        · have e := e.trans (if_neg c_186)
          refine lv_iconst (v := 1) hx hb dL_products_189 (by decide) ?_
          refine lv_goto (tgt := 194) hx hb dL_products_190 (by decide) ?_
          exact hb_194 x5 x6 x7 z0 y_182 y_183 1 lp lr kl kp qv _ _ _  hP hD hS (lv_sub hl [1, 2, 3, 4, 5, 6, 7, 0] rfl) e
      intro x5 x6 x7 lp lr kl kp qv H locs ls  hP hD hS hl e
      rw [pf_L_products_107, pf_L_products_107b] at e
      refine lv_iload hx hb dL_products_107 (lv_at hl 6 rfl) ?_
      refine lv_aload hx hb dL_products_109 (lv_at hl 3 rfl) ?_
      refine lv_iconst (v := 1) hx hb dL_products_111 (by decide) ?_
      obtain ⟨hi_112, e⟩ := kv_G_e e hRz
      refine kv_iald hx hb hK hP 3 0 hi_112 dL_products_112 rfl rfl (fun y_112 ey_112 => ?_)
      have e := kv_T_e e ey_112
      refine lv_icmp_ge (tgt := 217) hx hb dL_products_113 (by decide) (fun c_113 => ?_) (fun c_113 => ?_)
      · have e := e.trans (if_pos c_113)
        exact hb_217 x5 x6 lp lr kl kp qv _ _ _  hP hD hS (lv_sub hl [0, 1, 4, 5] rfl) e
      · have e := e.trans (if_neg c_113)
        refine lv_iload hx hb dL_products_116 (lv_at hl 5 rfl) ?_
        refine lv_if_lt (tgt := 217) hx hb dL_products_118 (by decide) (fun c_118 => ?_) (fun c_118 => ?_)
        · have e := e.trans (if_pos c_118)
          exact hb_217 x5 x6 lp lr kl kp qv _ _ _  hP hD hS (lv_sub hl [0, 1, 4, 5] rfl) e
        · have e := e.trans (if_neg c_118)
          refine lv_aload_n hx hb dL_products_121 rfl (lv_at hl 2 rfl) ?_
          refine lv_bipush (v := 6) hx hb dL_products_122 (by decide) ?_
          refine lv_iload hx hb dL_products_124 (lv_at hl 6 rfl) ?_
          refine lv_imul hx hb dL_products_126 ?_
          obtain ⟨hi_127, e⟩ := kv_G_e e hRz
          refine kv_iald hx hb hK hP 2 0 hi_127 dL_products_127 rfl rfl (fun y_127 ey_127 => ?_)
          have e := kv_T_e e ey_127
          refine lv_iload hx hb dL_products_128 (lv_at hl 4 rfl) ?_
          refine lv_icmp_ne (tgt := 171) hx hb dL_products_130 (by decide) (fun c_130 => ?_) (fun c_130 => ?_)
          · have e := e.trans (if_neg c_130)
            refine lv_iconst (v := 0) hx hb dL_products_171 (by decide) ?_
            exact hb_172 x5 x6 x7 0 lp lr kl kp qv _ _ _  hP hD hS (lv_sub hl [0, 1, 2, 3, 4, 5, 6] rfl) e
          · have e := e.trans (if_pos c_130)
            refine lv_aload_n hx hb dL_products_133 rfl (lv_at hl 2 rfl) ?_
            refine lv_bipush (v := 6) hx hb dL_products_134 (by decide) ?_
            refine lv_iload hx hb dL_products_136 (lv_at hl 6 rfl) ?_
            refine lv_imul hx hb dL_products_138 ?_
            refine lv_iconst (v := 4) hx hb dL_products_139 (by decide) ?_
            refine lv_iadd hx hb dL_products_140 ?_
            obtain ⟨hi_141, e⟩ := kv_G_e e hRz
            refine kv_iald hx hb hK hP 2 0 hi_141 dL_products_141 rfl rfl (fun y_141 ey_141 => ?_)
            have e := kv_T_e e ey_141
            refine lv_aload_n hx hb dL_products_142 rfl (lv_at hl 1 rfl) ?_
            refine lv_iconst (v := 2) hx hb dL_products_143 (by decide) ?_
            refine lv_iload hx hb dL_products_144 (lv_at hl 4 rfl) ?_
            refine lv_imul hx hb dL_products_146 ?_
            obtain ⟨hi_147, e⟩ := kv_G_e e hRz
            refine kv_iald hx hb hK hP 1 0 hi_147 dL_products_147 rfl rfl (fun y_147 ey_147 => ?_)
            have e := kv_T_e e ey_147
            refine lv_icmp_ne (tgt := 171) hx hb dL_products_148 (by decide) (fun c_148 => ?_) (fun c_148 => ?_)
            · have e := e.trans (if_neg c_148)
              refine lv_iconst (v := 0) hx hb dL_products_171 (by decide) ?_
              exact hb_172 x5 x6 x7 0 lp lr kl kp qv _ _ _  hP hD hS (lv_sub hl [0, 1, 2, 3, 4, 5, 6] rfl) e
            · have e := e.trans (if_pos c_148)
              refine lv_aload_n hx hb dL_products_151 rfl (lv_at hl 2 rfl) ?_
              refine lv_bipush (v := 6) hx hb dL_products_152 (by decide) ?_
              refine lv_iload hx hb dL_products_154 (lv_at hl 6 rfl) ?_
              refine lv_imul hx hb dL_products_156 ?_
              refine lv_iconst (v := 5) hx hb dL_products_157 (by decide) ?_
              refine lv_iadd hx hb dL_products_158 ?_
              obtain ⟨hi_159, e⟩ := kv_G_e e hRz
              refine kv_iald hx hb hK hP 2 0 hi_159 dL_products_159 rfl rfl (fun y_159 ey_159 => ?_)
              have e := kv_T_e e ey_159
              refine lv_aload hx hb dL_products_160 (lv_at hl 3 rfl) ?_
              refine lv_iconst (v := 0) hx hb dL_products_162 (by decide) ?_
              obtain ⟨hi_163, e⟩ := kv_G_e e hRz
              refine kv_iald hx hb hK hP 3 0 hi_163 dL_products_163 rfl rfl (fun y_163 ey_163 => ?_)
              have e := kv_T_e e ey_163
              refine lv_icmp_lt (tgt := 171) hx hb dL_products_164 (by decide) (fun c_164 => ?_) (fun c_164 => ?_)
              · have e := e.trans (if_pos c_164)
                refine lv_iconst (v := 0) hx hb dL_products_171 (by decide) ?_
                exact hb_172 x5 x6 x7 0 lp lr kl kp qv _ _ _  hP hD hS (lv_sub hl [0, 1, 2, 3, 4, 5, 6] rfl) e
              · have e := e.trans (if_neg c_164)
                refine lv_iconst (v := 1) hx hb dL_products_167 (by decide) ?_
                refine lv_goto (tgt := 172) hx hb dL_products_168 (by decide) ?_
                exact hb_172 x5 x6 x7 1 lp lr kl kp qv _ _ _  hP hD hS (lv_sub hl [0, 1, 2, 3, 4, 5, 6] rfl) e
  have hb_102 : ∀ (x5 : Int32) (z0 : Int32) (lp : Nat → Int32) (lr : Nat → Int32) (kl : Nat → Int32) (kp : Nat → Int32) (qv : Nat → Int32) (H : Heap) (locs : List Loc) (ls : Array Slot), va_P D vwCl (kv_lkw ci la ad lm lp lr lq kc kh ks fo kl kp dy mo n pa aE qp qm ql qv qc qe mt mv sw hv tk tn sc) H → va_D A (kv_lkw ci la ad lm lp lr lq kc kh ks fo kl kp dy mo n pa aE qp qm ql qv qc qe mt mv sw hv tk tn sc) → va_S A s.heap H locs → lv_has ls 9 [(0, .ref (ad 0)), (2, .ref (la 1)), (3, .ref (la 2)), (4, .ref (la 3)), (5, .int x5)] → Rz = pf_L_products_102 lq dy n qp ql p1  x5 z0 lp lr kl kp qv → W p l en rmL_products s m args below meth c H locs 0 0 Q (F0 m 102 ls [.int z0]) := by
    intro x5 z0 lp lr kl kp qv H locs ls  hP hD hS hl e
    rw [pf_L_products_102] at e
    refine lv_istore (lv' := [(6, .int z0), (0, .ref (ad 0)), (2, .ref (la 1)), (3, .ref (la 2)), (4, .ref (la 3)), (5, .int x5)]) hx hb dL_products_102 hl (by decide) rfl (fun ls hl => ?_)
    refine lv_iconst (v := 0) hx hb dL_products_104 (by decide) ?_
    refine lv_istore (lv' := [(7, .int 0), (6, .int z0), (0, .ref (ad 0)), (2, .ref (la 1)), (3, .ref (la 2)), (4, .ref (la 3)), (5, .int x5)]) hx hb dL_products_105 hl (by decide) rfl (fun ls hl => ?_)
    exact hb_107 kv_F x5 z0 0 lp lr kl kp qv _ _ _  hP hD hS (lv_sub hl [2, 3, 4, 5, 6, 1, 0] rfl) e
  refine lv_iload_n hx hb dL_products_0 rfl (lv_at hl 1 rfl) ?_
  refine lv_iconst (v := 2) hx hb dL_products_1 (by decide) ?_
  have hP : va_P D vwCl ((kv_lw ci la lm lp lr lq) ++ (kv_kw ci ad kc kh ks fo kl kp dy mo n pa aE qp qm ql qv qc qe mt mv sw hv tk tn sc)) s.heap := hP
  have hD : va_D A ((kv_lw ci la lm lp lr lq) ++ (kv_kw ci ad kc kh ks fo kl kp dy mo n pa aE qp qm ql qv qc qe mt mv sw hv tk tn sc)) := hD
  refine kv_calliF (va_runS (As := [.int p1, .int 2]) (rest := []) ⟨hx, hb, hml, hown, hts⟩ (c_L_low l D ci la lm lp lr lq p1 2 (kv_q1_n e hRz) s.heap.size) (va_cwS 2 hts gL_products_L_low rfl rfl rfl (by decide +kernel) ⟨Nat.le_of_ble_eq_true rfl, Nat.le_of_ble_eq_true rfl⟩) (kv_preS hK (kv_Pl hP) (kv_Dl hD)) rfl rfl hl.1 rfl (lv_room (Nat.le_of_ble_eq_true rfl)) dL_products_2 ⟨Nat.le_of_ble_eq_true rfl, Nat.le_of_ble_eq_true rfl⟩) hP hD hS hA (fun r_2 u_2 H locs hw_2 hP hD hS => ?_)
  have e := kv_q1_e e hw_2
  have hP : va_P D vwCl (kv_lkw ci la ad lm lp lr lq kc kh ks fo kl kp dy mo n pa aE qp qm ql qv qc qe mt mv sw hv tk tn sc) H := hP
  have hD : va_D A (kv_lkw ci la ad lm lp lr lq kc kh ks fo kl kp dy mo n pa aE qp qm ql qv qc qe mt mv sw hv tk tn sc) := hD
  refine lv_istore (lv' := [(5, .int r_2), (0, .ref (ad 0)), (1, .int p1), (2, .ref (la 1)), (3, .ref (la 2)), (4, .ref (la 3))]) hx hb dL_products_5 hl (by decide) rfl (fun ls hl => ?_)
  refine lv_iload_n hx hb dL_products_7 rfl (lv_at hl 2 rfl) ?_
  refine lv_iconst (v := 1) hx hb dL_products_8 (by decide) ?_
  refine lv_ishr hx hb dL_products_9 ?_
  refine lv_iconst (v := 3) hx hb dL_products_10 (by decide) ?_
  have hP : va_P D vwCl ((kv_lw ci la lm lp lr lq) ++ (kv_kw ci ad kc kh ks fo kl kp dy mo n pa aE qp qm ql qv qc qe mt mv sw hv tk tn sc)) H := hP
  have hD : va_D A ((kv_lw ci la lm lp lr lq) ++ (kv_kw ci ad kc kh ks fo kl kp dy mo n pa aE qp qm ql qv qc qe mt mv sw hv tk tn sc)) := hD
  refine kv_calliF (va_runS (As := [.int (p1 >>> (1 &&& 31)), .int 3]) (rest := []) ⟨hx, hb, hml, hown, hts⟩ (c_L_low l D ci la lm lp lr lq (p1 >>> (1 &&& 31)) 3 (kv_q1_n e hRz) H.size) (va_cwS 2 hts gL_products_L_low rfl rfl rfl (by decide +kernel) ⟨Nat.le_of_ble_eq_true rfl, Nat.le_of_ble_eq_true rfl⟩) (kv_preS hK (kv_Pl hP) (kv_Dl hD)) rfl rfl hl.1 rfl (lv_room (Nat.le_of_ble_eq_true rfl)) dL_products_11 ⟨Nat.le_of_ble_eq_true rfl, Nat.le_of_ble_eq_true rfl⟩) hP hD hS hA (fun r_11 u_11 H locs hw_11 hP hD hS => ?_)
  have e := kv_q1_e e hw_11
  have hP : va_P D vwCl (kv_lkw ci la ad lm lp lr lq kc kh ks fo kl kp dy mo n pa aE qp qm ql qv qc qe mt mv sw hv tk tn sc) H := hP
  have hD : va_D A (kv_lkw ci la ad lm lp lr lq kc kh ks fo kl kp dy mo n pa aE qp qm ql qv qc qe mt mv sw hv tk tn sc) := hD
  refine lv_if_ne (tgt := 84) hx hb dL_products_14 (by decide) (fun c_14 => ?_) (fun c_14 => ?_)
  · have e := e.trans (if_neg c_14)
    refine lv_aload_n hx hb dL_products_84 rfl (lv_at hl 3 rfl) ?_
    refine lv_iconst (v := 2) hx hb dL_products_85 (by decide) ?_
    refine lv_iload hx hb dL_products_86 (lv_at hl 0 rfl) ?_
    refine lv_imul hx hb dL_products_88 ?_
    obtain ⟨hi_89, e⟩ := kv_G_e e hRz
    refine kv_iald hx hb hK hP 1 0 hi_89 dL_products_89 rfl rfl (fun y_89 ey_89 => ?_)
    have e := kv_T_e e ey_89
    refine lv_bipush (v := 9) hx hb dL_products_90 (by decide) ?_
    refine lv_icmp_ne (tgt := 101) hx hb dL_products_92 (by decide) (fun c_92 => ?_) (fun c_92 => ?_)
    · have e := e.trans (if_neg c_92)
      refine lv_iconst (v := 0) hx hb dL_products_101 (by decide) ?_
      exact hb_102 r_2 0 lp lr kl kp qv _ _ _  hP hD hS (lv_sub hl [1, 3, 4, 5, 0] rfl) e
    · have e := e.trans (if_pos c_92)
      refine lv_sipush (v := (-2003)) hx hb dL_products_95 (by decide) ?_
      refine lv_goto (tgt := 102) hx hb dL_products_98 (by decide) ?_
      exact hb_102 r_2 (-2003) lp lr kl kp qv _ _ _  hP hD hS (lv_sub hl [1, 3, 4, 5, 0] rfl) e
  · have e := e.trans (if_pos c_14)
    refine lv_aload_n hx hb dL_products_17 rfl (lv_at hl 3 rfl) ?_
    refine lv_iconst (v := 2) hx hb dL_products_18 (by decide) ?_
    refine lv_iload hx hb dL_products_19 (lv_at hl 0 rfl) ?_
    refine lv_imul hx hb dL_products_21 ?_
    refine lv_iconst (v := 1) hx hb dL_products_22 (by decide) ?_
    refine lv_iadd hx hb dL_products_23 ?_
    obtain ⟨hi_24, e⟩ := kv_G_e e hRz
    refine kv_iald hx hb hK hP 1 0 hi_24 dL_products_24 rfl rfl (fun y_24 ey_24 => ?_)
    have e := kv_T_e e ey_24
    refine lv_istore (lv' := [(6, .int y_24), (5, .int r_2), (0, .ref (ad 0)), (1, .int p1), (2, .ref (la 1)), (3, .ref (la 2)), (4, .ref (la 3))]) hx hb dL_products_25 hl (by decide) rfl (fun ls hl => ?_)
    refine lv_aload_n hx hb dL_products_27 rfl (lv_at hl 4 rfl) ?_
    refine lv_iconst (v := 2) hx hb dL_products_28 (by decide) ?_
    refine lv_iload hx hb dL_products_29 (lv_at hl 1 rfl) ?_
    refine lv_imul hx hb dL_products_31 ?_
    refine lv_iconst (v := 1) hx hb dL_products_32 (by decide) ?_
    refine lv_iadd hx hb dL_products_33 ?_
    refine lv_iload_n hx hb dL_products_34 rfl (lv_at hl 3 rfl) ?_
    refine lv_iconst (v := 3) hx hb dL_products_35 (by decide) ?_
    refine lv_ishr hx hb dL_products_36 ?_
    refine lv_iload_n hx hb dL_products_37 rfl (lv_at hl 3 rfl) ?_
    refine lv_bipush (v := 13) hx hb dL_products_38 (by decide) ?_
    refine lv_ishr hx hb dL_products_40 ?_
    refine lv_iconst (v := 3) hx hb dL_products_41 (by decide) ?_
    have hP : va_P D vwCl ((kv_lw ci la lm lp lr lq) ++ (kv_kw ci ad kc kh ks fo kl kp dy mo n pa aE qp qm ql qv qc qe mt mv sw hv tk tn sc)) H := hP
    have hD : va_D A ((kv_lw ci la lm lp lr lq) ++ (kv_kw ci ad kc kh ks fo kl kp dy mo n pa aE qp qm ql qv qc qe mt mv sw hv tk tn sc)) := hD
    refine kv_calliF (va_runS (As := [.int (p1 >>> (13 &&& 31)), .int 3]) (rest := [.int (p1 >>> (3 &&& 31)), .int ((2 * r_2) + 1), .ref (la 1)]) ⟨hx, hb, hml, hown, hts⟩ (c_L_low l D ci la lm lp lr lq (p1 >>> (13 &&& 31)) 3 (kv_q1_n e hRz) H.size) (va_cwS 2 hts gL_products_L_low rfl rfl rfl (by decide +kernel) ⟨Nat.le_of_ble_eq_true rfl, Nat.le_of_ble_eq_true rfl⟩) (kv_preS hK (kv_Pl hP) (kv_Dl hD)) rfl rfl hl.1 rfl (lv_room (Nat.le_of_ble_eq_true rfl)) dL_products_42 ⟨Nat.le_of_ble_eq_true rfl, Nat.le_of_ble_eq_true rfl⟩) hP hD hS hA (fun r_42 u_42 H locs hw_42 hP hD hS => ?_)
    have e := kv_q1_e e hw_42
    have hP : va_P D vwCl (kv_lkw ci la ad lm lp lr lq kc kh ks fo kl kp dy mo n pa aE qp qm ql qv qc qe mt mv sw hv tk tn sc) H := hP
    have hD : va_D A (kv_lkw ci la ad lm lp lr lq kc kh ks fo kl kp dy mo n pa aE qp qm ql qv qc qe mt mv sw hv tk tn sc) := hD
    refine lv_if_ne (tgt := 54) hx hb dL_products_45 (by decide) (fun c_45 => ?_) (fun c_45 => ?_)
    · have e := e.trans (if_neg c_45)
      refine lv_iconst (v := 5) hx hb dL_products_54 (by decide) ?_
      exact hb_55 r_2 y_24 ((2 * r_2) + 1) (p1 >>> (3 &&& 31)) 5 lp lr kl kp qv _ _ _  hP hD hS (lv_sub hl [2, 4, 1, 0] rfl) e
    · have e := e.trans (if_pos c_45)
      refine lv_sipush (v := 1001) hx hb dL_products_48 (by decide) ?_
      refine lv_goto (tgt := 55) hx hb dL_products_51 (by decide) ?_
      exact hb_55 r_2 y_24 ((2 * r_2) + 1) (p1 >>> (3 &&& 31)) 1001 lp lr kl kp qv _ _ _  hP hD hS (lv_sub hl [2, 4, 1, 0] rfl) e
