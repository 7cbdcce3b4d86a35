def pf_X0_weightOfSet (sw : Nat → Int32) (p0 : Int32)  : Option (Int32) :=
  kv_G (p0 &&& 255) 256 (kv_T (sw (p0 &&& 255).toNatClampNeg) (fun y_9 => some (y_9)))
abbrev rmX0_weightOfSet : Room := { frames := 0, cells := 0, slots := 0, locals := 0 }
set_option maxHeartbeats 4000000 in
set_option maxRecDepth 100000 in
theorem c_X0_weightOfSet (l : Launch) (D : va_G) (ci ad : Nat → Nat) (kc : Nat → Int32) (kh : Nat → Int32) (ks : Nat → Int32) (fo : Nat → Nat → Int32) (kl : Nat → Int32) (kp : Nat → Int32) (dy : Int32) (mo : Int32) (n : Nat) (pa : Nat → Nat) (aE : Nat) (qp : Nat → Int32) (qm : Nat → Int32) (ql : Nat → Int32) (qv : Nat → Int32) (qc : Nat → Int32) (qe : Nat → Int32) (mt : Nat → Int32) (mv : Nat → Int32) (sw : Nat → Int32) (hv : Int32) (tk : Nat → Int32) (tn : Nat → Int32) (sc : Nat → Int32) (p0 : Int32)  (hRn : pf_X0_weightOfSet sw p0 ≠ none) (sz : Nat) : Met l yX0_weightOfSet wsX0_weightOfSet rmX0_weightOfSet (va_Pc [.ref (ad 8), .int p0] (kv_pre D ci (kv_kw ci ad kc kh ks fo kl kp dy mo n pa aE qp qm ql qv qc qe mt mv sw hv tk tn sc) sz)) (va_Qi (fun (r : Int32) (u : Unit) => pf_X0_weightOfSet sw p0 = some (r)) (fun u t => kv_post D (kv_kw ci ad kc kh ks fo kl kp dy mo n pa aE qp qm ql qv qc qe mt mv sw hv tk tn sc) sz (kv_kw ci ad kc kh ks fo kl kp dy mo n pa aE qp qm ql qv qc qe mt mv sw hv tk tn sc) t) (va_A (kv_kw ci ad kc kh ks fo kl kp dy mo n pa aE qp qm ql qv qc qe mt mv sw hv tk tn sc) sz)) 0 0 (va_A (kv_kw ci ad kc kh ks fo kl kp dy mo n pa aE qp qm ql qv qc qe mt mv sw hv tk tn sc) sz) := by
  refine Met.ofW (cc := cX0_weightOfSet) (maxL := 2) (ret := (some .int)) (by decide) rfl ?_
  intro p en s m args below meth c s₁ B hml hv
  obtain ⟨hv0, hsz, hP, hK, hD0⟩ := hv
  have hx := B.exec
  have hb := B.bytes
  have hr := B.returns
  have hts := atoms_spec (ws := wsX0_weightOfSet) B.pre
  have hown : s.vm.findClass RX0 = some m.cls := findClass_of_methodNamed B.named
  have hlocks := B.notSynchronized
  subst hsz
  have hD := hD0.self (sz := s.heap.size)
  generalize hAe : va_A (kv_kw ci ad kc kh ks fo kl kp dy mo n pa aE qp qm ql qv qc qe mt mv sw hv tk tn sc) s.heap.size = A at hD ⊢
  have hA : ∀ q : Nat, s.heap.size ≤ q → A q := fun q h => by rw [← hAe]; exact Or.inr h
  have hS : va_S A s.heap s.heap [] := va_S.rf
  have hP : va_P D vwCl (kv_kw ci ad kc kh ks fo kl kp dy mo n pa aE qp qm ql qv qc qe mt mv sw hv tk tn sc) s.heap := hP
  have hinRX0 : ∀ w ∈ u_ws RX0 TX0 7, w ∈ wsX0_weightOfSet := by decide +kernel
  generalize hRd : pf_X0_weightOfSet sw p0 = Rz at hRn
  have hRz := hRn
  refine kv_Q (fun Q hQ => ?_)
  refine W.eq (show entryFrame m args 2 = _ from by rw [hv0, lg_entry_eq]) ?_
  have hl := lv_entry ([.ref (ad 8), .int p0]) (n := 2) (Nat.le_of_ble_eq_true rfl)
  generalize (lg_sl ([.ref (ad 8), .int p0]) ++ List.replicate (2 - (lg_sl ([.ref (ad 8), .int p0])).length) Slot.unset).toArray = ls at hl ⊢
  have hl : lv_has ls 2 [(0, .ref (ad 8)), (1, .int p0)] := hl
  have e : Rz = pf_X0_weightOfSet sw p0 := hRd.symm
  rw [pf_X0_weightOfSet] at e
  refine lv_aload_n hx hb dX0_weightOfSet_0 rfl (lv_at hl 0 rfl) ?_
  refine va_get (D := D) (ci := 1) (v := .ref (ad 11)) (C := RX0) (T := TX0) (N := 7) hx hb hts hinRX0 hown hK hP 8 rfl rfl 2 (by decide) (hts (.fieldLink RX0 18 "LicenceKeeper$Layings" "setWeights" "[I") (by decide +kernel)) (fun _ h9 => h9) rfl dX0_weightOfSet_1 ?_
  refine lv_iload_n hx hb dX0_weightOfSet_4 rfl (lv_at hl 1 rfl) ?_
  refine lv_sipush (v := 255) hx hb dX0_weightOfSet_5 (by decide) ?_
  refine lv_iand hx hb dX0_weightOfSet_8 ?_
  obtain ⟨hi_9, e⟩ := kv_G_e e hRz
  refine kv_iald hx hb hK hP 11 0 hi_9 dX0_weightOfSet_9 rfl rfl (fun y_9 ey_9 => ?_)
  have e := kv_T_e e ey_9
  rw [hQ]
  exact W.iret (v := y_9) hx hb hr (fun t ht hW => ⟨⟨y_9, (), rfl, e, ⟨by rw [ht]; exact hP, by rw [hAe]; exact hD⟩⟩, hS.F ht⟩) hS.2.2 dX0_weightOfSet_10

def pf_X0_isLess (sw : Nat → Int32) (p0 : Int32) (p1 : Int32)  : Option (Int32) :=
  kv_q1 (pf_X0_weightOfSet sw p0) (fun r_2 => kv_q1 (pf_X0_weightOfSet sw p1) (fun r_7 => kv_T (r_2 - r_7) (fun y_11 => if y_11 < 0 then some (1) else if y_11 = 0 then if p1 ≤ p0 then some (0) else some (1) else some (0))))
abbrev rmX0_isLess : Room := { frames := 1, cells := 0, slots := 0, locals := 21 }
set_option maxHeartbeats 4000000 in
set_option maxRecDepth 100000 in
theorem c_X0_isLess (l : Launch) (D : va_G) (ci ad : Nat → Nat) (kc : Nat → Int32) (kh : Nat → Int32) (ks : Nat → Int32) (fo : Nat → Nat → Int32) (kl : Nat → Int32) (kp : Nat → Int32) (dy : Int32) (mo : Int32) (n : Nat) (pa : Nat → Nat) (aE : Nat) (qp : Nat → Int32) (qm : Nat → Int32) (ql : Nat → Int32) (qv : Nat → Int32) (qc : Nat → Int32) (qe : Nat → Int32) (mt : Nat → Int32) (mv : Nat → Int32) (sw : Nat → Int32) (hv : Int32) (tk : Nat → Int32) (tn : Nat → Int32) (sc : Nat → Int32) (p0 : Int32) (p1 : Int32)  (hRn : pf_X0_isLess sw p0 p1 ≠ none) (sz : Nat) : Met l yX0_isLess wsX0_isLess rmX0_isLess (va_Pc [.ref (ad 8), .int p0, .int p1] (kv_pre D ci (kv_kw ci ad kc kh ks fo kl kp dy mo n pa aE qp qm ql qv qc qe mt mv sw hv tk tn sc) sz)) (va_Qi (fun (r : Int32) (u : Unit) => pf_X0_isLess sw p0 p1 = some (r)) (fun u t => kv_post D (kv_kw ci ad kc kh ks fo kl kp dy mo n pa aE qp qm ql qv qc qe mt mv sw hv tk tn sc) sz (kv_kw ci ad kc kh ks fo kl kp dy mo n pa aE qp qm ql qv qc qe mt mv sw hv tk tn sc) t) (va_A (kv_kw ci ad kc kh ks fo kl kp dy mo n pa aE qp qm ql qv qc qe mt mv sw hv tk tn sc) sz)) 0 0 (va_A (kv_kw ci ad kc kh ks fo kl kp dy mo n pa aE qp qm ql qv qc qe mt mv sw hv tk tn sc) sz) := by
  refine Met.ofW (cc := cX0_isLess) (maxL := 4) (ret := (some .boolean)) (by decide) rfl ?_
  intro p en s m args below meth c s₁ B hml hv
  obtain ⟨hv0, hsz, hP, hK, hD0⟩ := hv
  have hx := B.exec
  have hb := B.bytes
  have hr := B.returns
  have hts := atoms_spec (ws := wsX0_isLess) B.pre
  have hown : s.vm.findClass RX0 = some m.cls := findClass_of_methodNamed B.named
  have hlocks := B.notSynchronized
  subst hsz
  have hD := hD0.self (sz := s.heap.size)
  generalize hAe : va_A (kv_kw ci ad kc kh ks fo kl kp dy mo n pa aE qp qm ql qv qc qe mt mv sw hv tk tn sc) s.heap.size = A at hD ⊢
  have hA : ∀ q : Nat, s.heap.size ≤ q → A q := fun q h => by rw [← hAe]; exact Or.inr h
  have hS : va_S A s.heap s.heap [] := va_S.rf
  have hP : va_P D vwCl (kv_kw ci ad kc kh ks fo kl kp dy mo n pa aE qp qm ql qv qc qe mt mv sw hv tk tn sc) s.heap := hP
  generalize hRd : pf_X0_isLess sw p0 p1 = Rz at hRn
  have hRz := hRn
  refine kv_Q (fun Q hQ => ?_)
  refine W.eq (show entryFrame m args 4 = _ from by rw [hv0, lg_entry_eq]) ?_
  have hl := lv_entry ([.ref (ad 8), .int p0, .int p1]) (n := 4) (Nat.le_of_ble_eq_true rfl)
  generalize (lg_sl ([.ref (ad 8), .int p0, .int p1]) ++ List.replicate (4 - (lg_sl ([.ref (ad 8), .int p0, .int p1])).length) Slot.unset).toArray = ls at hl ⊢
  have hl : lv_has ls 4 [(0, .ref (ad 8)), (1, .int p0), (2, .int p1)] := hl
  have e : Rz = pf_X0_isLess sw p0 p1 := hRd.symm
  rw [pf_X0_isLess] at e
  refine lv_aload_n hx hb dX0_isLess_0 rfl (lv_at hl 0 rfl) ?_
  refine lv_iload_n hx hb dX0_isLess_1 rfl (lv_at hl 1 rfl) ?_
  refine kv_calli (va_runV (As := [.int p0]) (rest := []) ⟨hx, hb, hml, hown, hts⟩ (c_X0_weightOfSet l D ci ad kc kh ks fo kl kp dy mo n pa aE qp qm ql qv qc qe mt mv sw hv tk tn sc p0 (kv_q1_n e hRz) s.heap.size) (cwV 1 hts gX0_isLess_X0_weightOfSet rfl rfl rfl (by decide +kernel) ⟨Nat.le_of_ble_eq_true rfl, Nat.le_of_ble_eq_true rfl⟩) (kv_preV hK hP hD (r := (RX0, TX0, 7)) (q0 := 8) (k := 1) rfl rfl rfl) rfl rfl hl.1 rfl (lv_room (Nat.le_of_ble_eq_true rfl)) dX0_isLess_2 ⟨Nat.le_of_ble_eq_true rfl, Nat.le_of_ble_eq_true rfl⟩) hD hS hA (fun r_2 u_2 H locs hw_2 hP hD hS => ?_)
  have e := kv_q1_e e hw_2
  refine lv_aload_n hx hb dX0_isLess_5 rfl (lv_at hl 0 rfl) ?_
  refine lv_iload_n hx hb dX0_isLess_6 rfl (lv_at hl 2 rfl) ?_
  refine kv_calli (va_runV (As := [.int p1]) (rest := [.int r_2]) ⟨hx, hb, hml, hown, hts⟩ (c_X0_weightOfSet l D ci ad kc kh ks fo kl kp dy mo n pa aE qp qm ql qv qc qe mt mv sw hv tk tn sc p1 (kv_q1_n e hRz) H.size) (cwV 1 hts gX0_isLess_X0_weightOfSet rfl rfl rfl (by decide +kernel) ⟨Nat.le_of_ble_eq_true rfl, Nat.le_of_ble_eq_true rfl⟩) (kv_preV hK hP hD (r := (RX0, TX0, 7)) (q0 := 8) (k := 1) rfl rfl rfl) rfl rfl hl.1 rfl (lv_room (Nat.le_of_ble_eq_true rfl)) dX0_isLess_7 ⟨Nat.le_of_ble_eq_true rfl, Nat.le_of_ble_eq_true rfl⟩) hD hS hA (fun r_7 u_7 H locs hw_7 hP hD hS => ?_)
  have e := kv_q1_e e hw_7
  refine lv_isub hx hb dX0_isLess_10 ?_
  refine lv_topi (fun y_11 ey_11 => ?_)
  have e := kv_T_e e ey_11
  refine lv_istore_n (lv' := [(3, .int y_11), (0, .ref (ad 8)), (1, .int p0), (2, .int p1)]) hx hb dX0_isLess_11 rfl hl (by decide) rfl (fun ls hl => ?_)
  refine lv_iload_n hx hb dX0_isLess_12 rfl (lv_at hl 0 rfl) ?_
  refine lv_if_lt (tgt := 25) hx hb dX0_isLess_13 (by decide) (fun c_13 => ?_) (fun c_13 => ?_)
  · have e := e.trans (if_pos c_13)
    refine lv_iconst (v := 1) hx hb dX0_isLess_25 (by decide) ?_
    refine lv_goto (tgt := 30) hx hb dX0_isLess_26 (by decide) ?_
    rw [hQ]
    exact W.zret (v := 1) hx hb hr (by decide +kernel) (fun t ht hW => ⟨⟨1, (), rfl, e, ⟨by rw [ht]; exact hP, by rw [hAe]; exact hD⟩⟩, hS.F ht⟩) hS.2.2 dX0_isLess_30
  · have e := e.trans (if_neg c_13)
    refine lv_iload_n hx hb dX0_isLess_16 rfl (lv_at hl 0 rfl) ?_
    refine lv_if_ne (tgt := 29) hx hb dX0_isLess_17 (by decide) (fun c_17 => ?_) (fun c_17 => ?_)
    · have e := e.trans (if_neg c_17)
      refine lv_iconst (v := 0) hx hb dX0_isLess_29 (by decide) ?_
      rw [hQ]
      exact W.zret (v := 0) hx hb hr (by decide +kernel) (fun t ht hW => ⟨⟨0, (), rfl, e, ⟨by rw [ht]; exact hP, by rw [hAe]; exact hD⟩⟩, hS.F ht⟩) hS.2.2 dX0_isLess_30
    · have e := e.trans (if_pos c_17)
      refine lv_iload_n hx hb dX0_isLess_20 rfl (lv_at hl 2 rfl) ?_
      refine lv_iload_n hx hb dX0_isLess_21 rfl (lv_at hl 3 rfl) ?_
      refine lv_icmp_ge (tgt := 29) hx hb dX0_isLess_22 (by decide) (fun c_22 => ?_) (fun c_22 => ?_)
      · have e := e.trans (if_pos c_22)
        refine lv_iconst (v := 0) hx hb dX0_isLess_29 (by decide) ?_
        rw [hQ]
        exact W.zret (v := 0) hx hb hr (by decide +kernel) (fun t ht hW => ⟨⟨0, (), rfl, e, ⟨by rw [ht]; exact hP, by rw [hAe]; exact hD⟩⟩, hS.F ht⟩) hS.2.2 dX0_isLess_30
      · have e := e.trans (if_neg c_22)
        refine lv_iconst (v := 1) hx hb dX0_isLess_25 (by decide) ?_
        refine lv_goto (tgt := 30) hx hb dX0_isLess_26 (by decide) ?_
        rw [hQ]
        exact W.zret (v := 1) hx hb hr (by decide +kernel) (fun t ht hW => ⟨⟨1, (), rfl, e, ⟨by rw [ht]; exact hP, by rw [hAe]; exact hD⟩⟩, hS.F ht⟩) hS.2.2 dX0_isLess_30

def pf_X0_leastTakenFor_5b (sw : Nat → Int32) (hv : Int32) (tk : Nat → Int32) (p0 : Int32)  (k_5 : Int32 → Int32 → Option (Int32)) (x2 : Int32) (x3 : Int32)  : Option (Int32) :=
  if 256 ≤ x3 then some (x2) else kv_q1 (pf_X0_weightOfSet sw (hv &&& (x3 ^^^ (-1)))) (fun r_21 => if r_21 = p0 then kv_G x3 256 (kv_T (tk x3.toNatClampNeg) (fun y_34 => kv_T (if y_34 < x2 then y_34 else x2) (fun y_35 => k_5 y_35 (x3 + 1)))) else k_5 x2 (x3 + 1))
def pf_X0_leastTakenFor_5 (sw : Nat → Int32) (hv : Int32) (tk : Nat → Int32) (p0 : Int32)  : Nat → Int32 → Int32 → Option (Int32)
  | 0, _, _ => none
  | nn + 1, x2, x3 => pf_X0_leastTakenFor_5b sw hv tk p0  (pf_X0_leastTakenFor_5 sw hv tk p0  nn) x2 x3
def pf_X0_leastTakenFor (sw : Nat → Int32) (hv : Int32) (tk : Nat → Int32) (p0 : Int32)  : Option (Int32) :=
  pf_X0_leastTakenFor_5 sw hv tk p0 kv_F 1000000 0
abbrev rmX0_leastTakenFor : Room := { frames := 1, cells := 0, slots := 0, locals := 21 }
set_option maxHeartbeats 4000000 in
set_option maxRecDepth 100000 in
theorem c_X0_leastTakenFor (l : Launch) (D : va_G) (ci ad : Nat → Nat) (kc : Nat → Int32) (kh : Nat → Int32) (ks : Nat → Int32) (fo : Nat → Nat → Int32) (kl : Nat → Int32) (kp : Nat → Int32) (dy : Int32) (mo : Int32) (n : Nat) (pa : Nat → Nat) (aE : Nat) (qp : Nat → Int32) (qm : Nat → Int32) (ql : Nat → Int32) (qv : Nat → Int32) (qc : Nat → Int32) (qe : Nat → Int32) (mt : Nat → Int32) (mv : Nat → Int32) (sw : Nat → Int32) (hv : Int32) (tk : Nat → Int32) (tn : Nat → Int32) (sc : Nat → Int32) (p0 : Int32)  (hRn : pf_X0_leastTakenFor sw hv tk p0 ≠ none) (sz : Nat) : Met l yX0_leastTakenFor wsX0_leastTakenFor rmX0_leastTakenFor (va_Pc [.ref (ad 8), .int p0] (kv_pre D ci (kv_kw ci ad kc kh ks fo kl kp dy mo n pa aE qp qm ql qv qc qe mt mv sw hv tk tn sc) sz)) (va_Qi (fun (r : Int32) (u : Unit) => pf_X0_leastTakenFor sw hv tk p0 = some (r)) (fun u t => kv_post D (kv_kw ci ad kc kh ks fo kl kp dy mo n pa aE qp qm ql qv qc qe mt mv sw hv tk tn sc) sz (kv_kw ci ad kc kh ks fo kl kp dy mo n pa aE qp qm ql qv qc qe mt mv sw hv tk tn sc) t) (va_A (kv_kw ci ad kc kh ks fo kl kp dy mo n pa aE qp qm ql qv qc qe mt mv sw hv tk tn sc) sz)) 0 0 (va_A (kv_kw ci ad kc kh ks fo kl kp dy mo n pa aE qp qm ql qv qc qe mt mv sw hv tk tn sc) sz) := by
  refine Met.ofW (cc := cX0_leastTakenFor) (maxL := 4) (ret := (some .int)) (by decide) rfl ?_
  intro p en s m args below meth c s₁ B hml hv
  obtain ⟨hv0, hsz, hP, hK, hD0⟩ := hv
  have hx := B.exec
  have hb := B.bytes
  have hr := B.returns
  have hts := atoms_spec (ws := wsX0_leastTakenFor) B.pre
  have hown : s.vm.findClass RX0 = some m.cls := findClass_of_methodNamed B.named
  have hlocks := B.notSynchronized
  subst hsz
  have hD := hD0.self (sz := s.heap.size)
  generalize hAe : va_A (kv_kw ci ad kc kh ks fo kl kp dy mo n pa aE qp qm ql qv qc qe mt mv sw hv tk tn sc) s.heap.size = A at hD ⊢
  have hA : ∀ q : Nat, s.heap.size ≤ q → A q := fun q h => by rw [← hAe]; exact Or.inr h
  have hS : va_S A s.heap s.heap [] := va_S.rf
  have hP : va_P D vwCl (kv_kw ci ad kc kh ks fo kl kp dy mo n pa aE qp qm ql qv qc qe mt mv sw hv tk tn sc) s.heap := hP
  have hinRX0 : ∀ w ∈ u_ws RX0 TX0 7, w ∈ wsX0_leastTakenFor := by decide +kernel
  generalize hRd : pf_X0_leastTakenFor sw hv tk p0 = Rz at hRn
  have hRz := hRn
  refine kv_Q (fun Q hQ => ?_)
  refine W.eq (show entryFrame m args 4 = _ from by rw [hv0, lg_entry_eq]) ?_
  have hl := lv_entry ([.ref (ad 8), .int p0]) (n := 4) (Nat.le_of_ble_eq_true rfl)
  generalize (lg_sl ([.ref (ad 8), .int p0]) ++ List.replicate (4 - (lg_sl ([.ref (ad 8), .int p0])).length) Slot.unset).toArray = ls at hl ⊢
  have hl : lv_has ls 4 [(0, .ref (ad 8)), (1, .int p0)] := hl
  have e : Rz = pf_X0_leastTakenFor sw hv tk p0 := hRd.symm
  rw [pf_X0_leastTakenFor] at e
  have hb_5 : ∀ (n_5 : Nat), ∀ (x2 : Int32) (x3 : Int32) (H : Heap) (locs : List Loc) (ls : Array Slot), va_P D vwCl (kv_kw ci ad kc kh ks fo kl kp dy mo n pa aE qp qm ql qv qc qe mt mv sw hv tk tn sc) H → va_D A (kv_kw ci ad kc kh ks fo kl kp dy mo n pa aE qp qm ql qv qc qe mt mv sw hv tk tn sc) → va_S A s.heap H locs → lv_has ls 4 [(0, .ref (ad 8)), (1, .int p0), (2, .int x2), (3, .int x3)] → Rz = pf_X0_leastTakenFor_5 sw hv tk p0  n_5 x2 x3 → W p l en rmX0_leastTakenFor s m args below meth c H locs 0 0 Q (F0 m 5 ls []) := by
    intro n_5
    induction n_5 with
    | zero =>
      intro x2 x3 H locs ls  _ _ _ _ e
      exact absurd e hRz
    | succ n_5 ih_5 =>
      intro x2 x3 H locs ls  hP hD hS hl e
      rw [pf_X0_leastTakenFor_5, pf_X0_leastTakenFor_5b] at e
      refine lv_iload_n hx hb dX0_leastTakenFor_5 rfl (lv_at hl 3 rfl) ?_
      refine lv_sipush (v := 256) hx hb dX0_leastTakenFor_6 (by decide) ?_
      refine lv_icmp_ge (tgt := 45) hx hb dX0_leastTakenFor_9 (by decide) (fun c_9 => ?_) (fun c_9 => ?_)
      · have e := e.trans (if_pos c_9)
        refine lv_iload_n hx hb dX0_leastTakenFor_45 rfl (lv_at hl 2 rfl) ?_
        rw [hQ]
        exact W.iret (v := x2) hx hb hr (fun t ht hW => ⟨⟨x2, (), rfl, e, ⟨by rw [ht]; exact hP, by rw [hAe]; exact hD⟩⟩, hS.F ht⟩) hS.2.2 dX0_leastTakenFor_46
      · have e := e.trans (if_neg c_9)
        refine lv_aload_n hx hb dX0_leastTakenFor_12 rfl (lv_at hl 0 rfl) ?_
        refine lv_aload_n hx hb dX0_leastTakenFor_13 rfl (lv_at hl 0 rfl) ?_
        refine va_get (D := D) (ci := 1) (v := .int hv) (C := RX0) (T := TX0) (N := 7) hx hb hts hinRX0 hown hK hP 8 rfl rfl 3 (by decide) (hts (.fieldLink RX0 21 "LicenceKeeper$Layings" "havers" "I") (by decide +kernel)) (fun _ h9 => h9) rfl dX0_leastTakenFor_14 ?_
        refine lv_iload_n hx hb dX0_leastTakenFor_17 rfl (lv_at hl 3 rfl) ?_
        refine lv_iconst (v := (-1)) hx hb dX0_leastTakenFor_18 (by decide) ?_
        refine lv_ixor hx hb dX0_leastTakenFor_19 ?_
        refine lv_iand hx hb dX0_leastTakenFor_20 ?_
        refine kv_calli (va_runV (As := [.int (hv &&& (x3 ^^^ (-1)))]) (rest := []) ⟨hx, hb, hml, hown, hts⟩ (c_X0_weightOfSet l D ci ad kc kh ks fo kl kp dy mo n pa aE qp qm ql qv qc qe mt mv sw hv tk tn sc (hv &&& (x3 ^^^ (-1))) (kv_q1_n e hRz) H.size) (cwV 1 hts gX0_leastTakenFor_X0_weightOfSet rfl rfl rfl (by decide +kernel) ⟨Nat.le_of_ble_eq_true rfl, Nat.le_of_ble_eq_true rfl⟩) (kv_preV hK hP hD (r := (RX0, TX0, 7)) (q0 := 8) (k := 1) rfl rfl rfl) rfl rfl hl.1 rfl (lv_room (Nat.le_of_ble_eq_true rfl)) dX0_leastTakenFor_21 ⟨Nat.le_of_ble_eq_true rfl, Nat.le_of_ble_eq_true rfl⟩) hD hS hA (fun r_21 u_21 H locs hw_21 hP hD hS => ?_)
        have e := kv_q1_e e hw_21
        refine lv_iload_n hx hb dX0_leastTakenFor_24 rfl (lv_at hl 1 rfl) ?_
        refine lv_icmp_ne (tgt := 39) hx hb dX0_leastTakenFor_25 (by decide) (fun c_25 => ?_) (fun c_25 => ?_)
        · have e := e.trans (if_neg c_25)
          refine lv_iinc (v := x3 + 1) (lv' := [(3, .int (x3 + 1)), (0, .ref (ad 8)), (1, .int p0), (2, .int x2)]) hx hb dX0_leastTakenFor_39 hl (k := 3) rfl rfl (by decide) rfl (fun ls hl => ?_)
          refine lv_goto (tgt := 5) hx hb dX0_leastTakenFor_42 (by decide) ?_
          exact ih_5 x2 (x3 + 1) _ _ _  hP hD hS (lv_sub hl [1, 2, 3, 0] rfl) e
        · have e := e.trans (if_pos c_25)
          refine lv_iload_n hx hb dX0_leastTakenFor_28 rfl (lv_at hl 2 rfl) ?_
          refine lv_aload_n hx hb dX0_leastTakenFor_29 rfl (lv_at hl 0 rfl) ?_
          refine va_get (D := D) (ci := 1) (v := .ref (ad 12)) (C := RX0) (T := TX0) (N := 7) hx hb hts hinRX0 hown hK hP 8 rfl rfl 4 (by decide) (hts (.fieldLink RX0 25 "LicenceKeeper$Layings" "taken" "[I") (by decide +kernel)) (fun _ h9 => h9) rfl dX0_leastTakenFor_30 ?_
          refine lv_iload_n hx hb dX0_leastTakenFor_33 rfl (lv_at hl 3 rfl) ?_
          obtain ⟨hi_34, e⟩ := kv_G_e e hRz
          refine kv_iald hx hb hK hP 12 0 hi_34 dX0_leastTakenFor_34 rfl rfl (fun y_34 ey_34 => ?_)
          have e := kv_T_e e ey_34
          refine va_mmin hx hb (hml.trans hl.1.symm) hown (hts (.methodLink RX0 45 Lib.Math.min.name) (by decide +kernel)) (hts (.static Lib.Math.min.name) (by decide +kernel)) (hts (.initialized "java/lang/Math") (by decide +kernel)) (hts (.code Lib.Math.min.name Lib.Math.min.code 2 (some .int)) (by decide +kernel)) (Nat.le_of_ble_eq_true rfl) (Nat.le_of_ble_eq_true rfl) (Nat.le_of_ble_eq_true rfl) (Nat.le_of_ble_eq_true rfl) dX0_leastTakenFor_35 ?_
          refine lv_topi (fun y_35 ey_35 => ?_)
          have e := kv_T_e e ey_35
          refine lv_istore_n (lv' := [(2, .int y_35), (0, .ref (ad 8)), (1, .int p0), (3, .int x3)]) hx hb dX0_leastTakenFor_38 rfl hl (by decide) rfl (fun ls hl => ?_)
          refine lv_iinc (v := x3 + 1) (lv' := [(3, .int (x3 + 1)), (2, .int y_35), (0, .ref (ad 8)), (1, .int p0)]) hx hb dX0_leastTakenFor_39 hl (k := 3) rfl rfl (by decide) rfl (fun ls hl => ?_)
          refine lv_goto (tgt := 5) hx hb dX0_leastTakenFor_42 (by decide) ?_
          exact ih_5 y_35 (x3 + 1) _ _ _  hP hD hS (lv_sub hl [2, 3, 1, 0] rfl) e
  refine lv_ldc (v := 1000000) hx hb hown (hts (.constant RX0 34 1000000) (by decide +kernel)) dX0_leastTakenFor_0 ?_
  refine lv_istore_n (lv' := [(2, .int 1000000), (0, .ref (ad 8)), (1, .int p0)]) hx hb dX0_leastTakenFor_2 rfl hl (by decide) rfl (fun ls hl => ?_)
  refine lv_iconst (v := 0) hx hb dX0_leastTakenFor_3 (by decide) ?_
  refine lv_istore_n (lv' := [(3, .int 0), (2, .int 1000000), (0, .ref (ad 8)), (1, .int p0)]) hx hb dX0_leastTakenFor_4 rfl hl (by decide) rfl (fun ls hl => ?_)
  exact hb_5 kv_F 1000000 0 _ _ _  hP hD hS (lv_sub hl [2, 3, 1, 0] rfl) e

def pf_X0_leastUncoveredWithin_7b (sw : Nat → Int32) (hv : Int32) (tk : Nat → Int32) (p0 : Int32)  (k_7 : Int32 → Int32 → Option (Int32)) (x2 : Int32) (x3 : Int32)  : Option (Int32) :=
  if 256 ≤ x3 then some (x2) else kv_T (hv &&& (x3 ^^^ (-1))) (fun y_22 => kv_G x3 256 (kv_T (tk x3.toNatClampNeg) (fun y_29 => if p0 < y_29 then k_7 x2 (x3 + 1) else kv_q1 (pf_X0_isLess sw y_22 x2) (fun r_38 => if r_38 = 0 then k_7 x2 (x3 + 1) else k_7 y_22 (x3 + 1)))))
def pf_X0_leastUncoveredWithin_7 (sw : Nat → Int32) (hv : Int32) (tk : Nat → Int32) (p0 : Int32)  : Nat → Int32 → Int32 → Option (Int32)
  | 0, _, _ => none
  | nn + 1, x2, x3 => pf_X0_leastUncoveredWithin_7b sw hv tk p0  (pf_X0_leastUncoveredWithin_7 sw hv tk p0  nn) x2 x3
def pf_X0_leastUncoveredWithin (sw : Nat → Int32) (hv : Int32) (tk : Nat → Int32) (p0 : Int32)  : Option (Int32) :=
  pf_X0_leastUncoveredWithin_7 sw hv tk p0 kv_F hv 0
abbrev rmX0_leastUncoveredWithin : Room := { frames := 2, cells := 0, slots := 0, locals := 44 }
set_option maxHeartbeats 4000000 in
set_option maxRecDepth 100000 in
theorem c_X0_leastUncoveredWithin (l : Launch) (D : va_G) (ci ad : Nat → Nat) (kc : Nat → Int32) (kh : Nat → Int32) (ks : Nat → Int32) (fo : Nat → Nat → Int32) (kl : Nat → Int32) (kp : Nat → Int32) (dy : Int32) (mo : Int32) (n : Nat) (pa : Nat → Nat) (aE : Nat) (qp : Nat → Int32) (qm : Nat → Int32) (ql : Nat → Int32) (qv : Nat → Int32) (qc : Nat → Int32) (qe : Nat → Int32) (mt : Nat → Int32) (mv : Nat → Int32) (sw : Nat → Int32) (hv : Int32) (tk : Nat → Int32) (tn : Nat → Int32) (sc : Nat → Int32) (p0 : Int32)  (hRn : pf_X0_leastUncoveredWithin sw hv tk p0 ≠ none) (sz : Nat) : Met l yX0_leastUncoveredWithin wsX0_leastUncoveredWithin rmX0_leastUncoveredWithin (va_Pc [.ref (ad 8), .int p0] (kv_pre D ci (kv_kw ci ad kc kh ks fo kl kp dy mo n pa aE qp qm ql qv qc qe mt mv sw hv tk tn sc) sz)) (va_Qi (fun (r : Int32) (u : Unit) => pf_X0_leastUncoveredWithin sw hv tk p0 = some (r)) (fun u t => kv_post D (kv_kw ci ad kc kh ks fo kl kp dy mo n pa aE qp qm ql qv qc qe mt mv sw hv tk tn sc) sz (kv_kw ci ad kc kh ks fo kl kp dy mo n pa aE qp qm ql qv qc qe mt mv sw hv tk tn sc) t) (va_A (kv_kw ci ad kc kh ks fo kl kp dy mo n pa aE qp qm ql qv qc qe mt mv sw hv tk tn sc) sz)) 0 0 (va_A (kv_kw ci ad kc kh ks fo kl kp dy mo n pa aE qp qm ql qv qc qe mt mv sw hv tk tn sc) sz) := by
  refine Met.ofW (cc := cX0_leastUncoveredWithin) (maxL := 5) (ret := (some .int)) (by decide) rfl ?_
  intro p en s m args below meth c s₁ B hml hv
  obtain ⟨hv0, hsz, hP, hK, hD0⟩ := hv
  have hx := B.exec
  have hb := B.bytes
  have hr := B.returns
  have hts := atoms_spec (ws := wsX0_leastUncoveredWithin) B.pre
  have hown : s.vm.findClass RX0 = some m.cls := findClass_of_methodNamed B.named
  have hlocks := B.notSynchronized
  subst hsz
  have hD := hD0.self (sz := s.heap.size)
  generalize hAe : va_A (kv_kw ci ad kc kh ks fo kl kp dy mo n pa aE qp qm ql qv qc qe mt mv sw hv tk tn sc) s.heap.size = A at hD ⊢
  have hA : ∀ q : Nat, s.heap.size ≤ q → A q := fun q h => by rw [← hAe]; exact Or.inr h
  have hS : va_S A s.heap s.heap [] := va_S.rf
  have hP : va_P D vwCl (kv_kw ci ad kc kh ks fo kl kp dy mo n pa aE qp qm ql qv qc qe mt mv sw hv tk tn sc) s.heap := hP
  have hinRX0 : ∀ w ∈ u_ws RX0 TX0 7, w ∈ wsX0_leastUncoveredWithin := by decide +kernel
  generalize hRd : pf_X0_leastUncoveredWithin sw hv tk p0 = Rz at hRn
  have hRz := hRn
  refine kv_Q (fun Q hQ => ?_)
  refine W.eq (show entryFrame m args 5 = _ from by rw [hv0, lg_entry_eq]) ?_
  have hl := lv_entry ([.ref (ad 8), .int p0]) (n := 5) (Nat.le_of_ble_eq_true rfl)
  generalize (lg_sl ([.ref (ad 8), .int p0]) ++ List.replicate (5 - (lg_sl ([.ref (ad 8), .int p0])).length) Slot.unset).toArray = ls at hl ⊢
  have hl : lv_has ls 5 [(0, .ref (ad 8)), (1, .int p0)] := hl
  have e : Rz = pf_X0_leastUncoveredWithin sw hv tk p0 := hRd.symm
  rw [pf_X0_leastUncoveredWithin] at e
  have hb_7 : ∀ (n_7 : Nat), ∀ (x2 : Int32) (x3 : Int32) (H : Heap) (locs : List Loc) (ls : Array Slot), va_P D vwCl (kv_kw ci ad kc kh ks fo kl kp dy mo n pa aE qp qm ql qv qc qe mt mv sw hv tk tn sc) H → va_D A (kv_kw ci ad kc kh ks fo kl kp dy mo n pa aE qp qm ql qv qc qe mt mv sw hv tk tn sc) → va_S A s.heap H locs → lv_has ls 5 [(0, .ref (ad 8)), (1, .int p0), (2, .int x2), (3, .int x3)] → Rz = pf_X0_leastUncoveredWithin_7 sw hv tk p0  n_7 x2 x3 → W p l en rmX0_leastUncoveredWithin s m args below meth c H locs 0 0 Q (F0 m 7 ls []) := by
    intro n_7
    induction n_7 with
    | zero =>
      intro x2 x3 H locs ls  _ _ _ _ e
      exact absurd e hRz
    | succ n_7 ih_7 =>
      intro x2 x3 H locs ls  hP hD hS hl e
      rw [pf_X0_leastUncoveredWithin_7, pf_X0_leastUncoveredWithin_7b] at e
      refine lv_iload_n hx hb dX0_leastUncoveredWithin_7 rfl (lv_at hl 3 rfl) ?_
      refine lv_sipush (v := 256) hx hb dX0_leastUncoveredWithin_8 (by decide) ?_
      refine lv_icmp_ge (tgt := 53) hx hb dX0_leastUncoveredWithin_11 (by decide) (fun c_11 => ?_) (fun c_11 => ?_)
      · have e := e.trans (if_pos c_11)
        refine lv_iload_n hx hb dX0_leastUncoveredWithin_53 rfl (lv_at hl 2 rfl) ?_
        rw [hQ]
        exact W.iret (v := x2) hx hb hr (fun t ht hW => ⟨⟨x2, (), rfl, e, ⟨by rw [ht]; exact hP, by rw [hAe]; exact hD⟩⟩, hS.F ht⟩) hS.2.2 dX0_leastUncoveredWithin_54
      · have e := e.trans (if_neg c_11)
        refine lv_aload_n hx hb dX0_leastUncoveredWithin_14 rfl (lv_at hl 0 rfl) ?_
        refine va_get (D := D) (ci := 1) (v := .int hv) (C := RX0) (T := TX0) (N := 7) hx hb hts hinRX0 hown hK hP 8 rfl rfl 3 (by decide) (hts (.fieldLink RX0 21 "LicenceKeeper$Layings" "havers" "I") (by decide +kernel)) (fun _ h9 => h9) rfl dX0_leastUncoveredWithin_15 ?_
        refine lv_iload_n hx hb dX0_leastUncoveredWithin_18 rfl (lv_at hl 3 rfl) ?_
        refine lv_iconst (v := (-1)) hx hb dX0_leastUncoveredWithin_19 (by decide) ?_
        refine lv_ixor hx hb dX0_leastUncoveredWithin_20 ?_
        refine lv_iand hx hb dX0_leastUncoveredWithin_21 ?_
        refine lv_topi (fun y_22 ey_22 => ?_)
        have e := kv_T_e e ey_22
        refine lv_istore (lv' := [(4, .int y_22), (0, .ref (ad 8)), (1, .int p0), (2, .int x2), (3, .int x3)]) hx hb dX0_leastUncoveredWithin_22 hl (by decide) rfl (fun ls hl => ?_)
        refine lv_aload_n hx hb dX0_leastUncoveredWithin_24 rfl (lv_at hl 1 rfl) ?_
        refine va_get (D := D) (ci := 1) (v := .ref (ad 12)) (C := RX0) (T := TX0) (N := 7) hx hb hts hinRX0 hown hK hP 8 rfl rfl 4 (by decide) (hts (.fieldLink RX0 25 "LicenceKeeper$Layings" "taken" "[I") (by decide +kernel)) (fun _ h9 => h9) rfl dX0_leastUncoveredWithin_25 ?_
        refine lv_iload_n hx hb dX0_leastUncoveredWithin_28 rfl (lv_at hl 4 rfl) ?_
        obtain ⟨hi_29, e⟩ := kv_G_e e hRz
        refine kv_iald hx hb hK hP 12 0 hi_29 dX0_leastUncoveredWithin_29 rfl rfl (fun y_29 ey_29 => ?_)
        have e := kv_T_e e ey_29
        refine lv_iload_n hx hb dX0_leastUncoveredWithin_30 rfl (lv_at hl 2 rfl) ?_
        refine lv_icmp_gt (tgt := 47) hx hb dX0_leastUncoveredWithin_31 (by decide) (fun c_31 => ?_) (fun c_31 => ?_)
        · have e := e.trans (if_pos c_31)
          refine lv_iinc (v := x3 + 1) (lv' := [(3, .int (x3 + 1)), (4, .int y_22), (0, .ref (ad 8)), (1, .int p0), (2, .int x2)]) hx hb dX0_leastUncoveredWithin_47 hl (k := 4) rfl rfl (by decide) rfl (fun ls hl => ?_)
          refine lv_goto (tgt := 7) hx hb dX0_leastUncoveredWithin_50 (by decide) ?_
          exact ih_7 x2 (x3 + 1) _ _ _  hP hD hS (lv_sub hl [2, 3, 4, 0] rfl) e
        · have e := e.trans (if_neg c_31)
          refine lv_aload_n hx hb dX0_leastUncoveredWithin_34 rfl (lv_at hl 1 rfl) ?_
          refine lv_iload hx hb dX0_leastUncoveredWithin_35 (lv_at hl 0 rfl) ?_
          refine lv_iload_n hx hb dX0_leastUncoveredWithin_37 rfl (lv_at hl 3 rfl) ?_
          refine kv_calli (va_runV (As := [.int y_22, .int x2]) (rest := []) ⟨hx, hb, hml, hown, hts⟩ (c_X0_isLess l D ci ad kc kh ks fo kl kp dy mo n pa aE qp qm ql qv qc qe mt mv sw hv tk tn sc y_22 x2 (kv_q1_n e hRz) H.size) (cwV 2 hts gX0_leastUncoveredWithin_X0_isLess rfl rfl rfl (by decide +kernel) ⟨Nat.le_of_ble_eq_true rfl, Nat.le_of_ble_eq_true rfl⟩) (kv_preV hK hP hD (r := (RX0, TX0, 7)) (q0 := 8) (k := 1) rfl rfl rfl) rfl rfl hl.1 rfl (lv_room (Nat.le_of_ble_eq_true rfl)) dX0_leastUncoveredWithin_38 ⟨Nat.le_of_ble_eq_true rfl, Nat.le_of_ble_eq_true rfl⟩) hD hS hA (fun r_38 u_38 H locs hw_38 hP hD hS => ?_)
          have e := kv_q1_e e hw_38
          refine lv_if_eq (tgt := 47) hx hb dX0_leastUncoveredWithin_41 (by decide) (fun c_41 => ?_) (fun c_41 => ?_)
          · have e := e.trans (if_pos c_41)
            refine lv_iinc (v := x3 + 1) (lv' := [(3, .int (x3 + 1)), (4, .int y_22), (0, .ref (ad 8)), (1, .int p0), (2, .int x2)]) hx hb dX0_leastUncoveredWithin_47 hl (k := 4) rfl rfl (by decide) rfl (fun ls hl => ?_)
            refine lv_goto (tgt := 7) hx hb dX0_leastUncoveredWithin_50 (by decide) ?_
            exact ih_7 x2 (x3 + 1) _ _ _  hP hD hS (lv_sub hl [2, 3, 4, 0] rfl) e
          · have e := e.trans (if_neg c_41)
            refine lv_iload hx hb dX0_leastUncoveredWithin_44 (lv_at hl 0 rfl) ?_
            refine lv_istore_n (lv' := [(2, .int y_22), (4, .int y_22), (0, .ref (ad 8)), (1, .int p0), (3, .int x3)]) hx hb dX0_leastUncoveredWithin_46 rfl hl (by decide) rfl (fun ls hl => ?_)
            refine lv_iinc (v := x3 + 1) (lv' := [(3, .int (x3 + 1)), (2, .int y_22), (4, .int y_22), (0, .ref (ad 8)), (1, .int p0)]) hx hb dX0_leastUncoveredWithin_47 hl (k := 4) rfl rfl (by decide) rfl (fun ls hl => ?_)
            refine lv_goto (tgt := 7) hx hb dX0_leastUncoveredWithin_50 (by decide) ?_
            exact ih_7 y_22 (x3 + 1) _ _ _  hP hD hS (lv_sub hl [3, 4, 1, 0] rfl) e
  refine lv_aload_n hx hb dX0_leastUncoveredWithin_0 rfl (lv_at hl 0 rfl) ?_
  refine va_get (D := D) (ci := 1) (v := .int hv) (C := RX0) (T := TX0) (N := 7) hx hb hts hinRX0 hown hK hP 8 rfl rfl 3 (by decide) (hts (.fieldLink RX0 21 "LicenceKeeper$Layings" "havers" "I") (by decide +kernel)) (fun _ h9 => h9) rfl dX0_leastUncoveredWithin_1 ?_
  refine lv_istore_n (lv' := [(2, .int hv), (0, .ref (ad 8)), (1, .int p0)]) hx hb dX0_leastUncoveredWithin_4 rfl hl (by decide) rfl (fun ls hl => ?_)
  refine lv_iconst (v := 0) hx hb dX0_leastUncoveredWithin_5 (by decide) ?_
  refine lv_istore_n (lv' := [(3, .int 0), (2, .int hv), (0, .ref (ad 8)), (1, .int p0)]) hx hb dX0_leastUncoveredWithin_6 rfl hl (by decide) rfl (fun ls hl => ?_)
  exact hb_7 kv_F hv 0 _ _ _  hP hD hS (lv_sub hl [2, 3, 1, 0] rfl) e

def pf_X0_addToAll_2b (sc : Nat → Int32) (p0 : Int32)  (k_2 : Int32 → (Nat → Int32) → Option ((Nat → Int32))) (x2 : Int32) (tn : Nat → Int32) : Option ((Nat → Int32)) :=
  if 256 ≤ x2 then some (tn) else kv_G x2 256 (kv_T (sc x2.toNatClampNeg) (fun y_14 => if y_14 = (-1) then k_2 (x2 + 1) tn else kv_G x2 256 (kv_T (sc x2.toNatClampNeg) (fun y_29 => kv_G ((p0 ||| y_29) &&& 255) 256 (kv_T (upd tn ((p0 ||| y_29) &&& 255).toNatClampNeg 0) (fun g_36 => k_2 (x2 + 1) g_36))))))
def pf_X0_addToAll_2 (sc : Nat → Int32) (p0 : Int32)  : Nat → Int32 → (Nat → Int32) → Option ((Nat → Int32))
  | 0, _, _ => none
  | nn + 1, x2, tn => pf_X0_addToAll_2b sc p0  (pf_X0_addToAll_2 sc p0  nn) x2 tn
def pf_X0_addToAll (sc : Nat → Int32) (p0 : Int32) (tn : Nat → Int32) : Option ((Nat → Int32)) :=
  pf_X0_addToAll_2 sc p0 kv_F 0 tn
abbrev rmX0_addToAll : Room := { frames := 0, cells := 0, slots := 0, locals := 0 }
set_option maxHeartbeats 4000000 in
set_option maxRecDepth 100000 in
theorem c_X0_addToAll (l : Launch) (D : va_G) (ci ad : Nat → Nat) (kc : Nat → Int32) (kh : Nat → Int32) (ks : Nat → Int32) (fo : Nat → Nat → Int32) (kl : Nat → Int32) (kp : Nat → Int32) (dy : Int32) (mo : Int32) (n : Nat) (pa : Nat → Nat) (aE : Nat) (qp : Nat → Int32) (qm : Nat → Int32) (ql : Nat → Int32) (qv : Nat → Int32) (qc : Nat → Int32) (qe : Nat → Int32) (mt : Nat → Int32) (mv : Nat → Int32) (sw : Nat → Int32) (hv : Int32) (tk : Nat → Int32) (tn : Nat → Int32) (sc : Nat → Int32) (p0 : Int32)  (hRn : pf_X0_addToAll sc p0 tn ≠ none) (sz : Nat) : Met l yX0_addToAll wsX0_addToAll rmX0_addToAll (va_Pc [.ref (ad 8), .int p0] (kv_pre D ci (kv_kw ci ad kc kh ks fo kl kp dy mo n pa aE qp qm ql qv qc qe mt mv sw hv tk tn sc) sz)) (va_Qv (fun (u : (Nat → Int32)) => pf_X0_addToAll sc p0 tn = some (u)) (fun u t => kv_post D (kv_kw ci ad kc kh ks fo kl kp dy mo n pa aE qp qm ql qv qc qe mt mv sw hv tk tn sc) sz (kv_kw ci ad kc kh ks fo kl kp dy mo n pa aE qp qm ql qv qc qe mt mv sw hv tk u sc) t) (va_A (kv_kw ci ad kc kh ks fo kl kp dy mo n pa aE qp qm ql qv qc qe mt mv sw hv tk tn sc) sz)) 0 0 (va_A (kv_kw ci ad kc kh ks fo kl kp dy mo n pa aE qp qm ql qv qc qe mt mv sw hv tk tn sc) sz) := by
  refine Met.ofW (cc := cX0_addToAll) (maxL := 3) (ret := none) (by decide) rfl ?_
  intro p en s m args below meth c s₁ B hml hv
  obtain ⟨hv0, hsz, hP, hK, hD0⟩ := hv
  have hx := B.exec
  have hb := B.bytes
  have hr := B.returns
  have hts := atoms_spec (ws := wsX0_addToAll) B.pre
  have hown : s.vm.findClass RX0 = some m.cls := findClass_of_methodNamed B.named
  have hlocks := B.notSynchronized
  subst hsz
  have hD := hD0.self (sz := s.heap.size)
  generalize hAe : va_A (kv_kw ci ad kc kh ks fo kl kp dy mo n pa aE qp qm ql qv qc qe mt mv sw hv tk tn sc) s.heap.size = A at hD ⊢
  have hA : ∀ q : Nat, s.heap.size ≤ q → A q := fun q h => by rw [← hAe]; exact Or.inr h
  have hS : va_S A s.heap s.heap [] := va_S.rf
  have hP : va_P D vwCl (kv_kw ci ad kc kh ks fo kl kp dy mo n pa aE qp qm ql qv qc qe mt mv sw hv tk tn sc) s.heap := hP
  have hinRX0 : ∀ w ∈ u_ws RX0 TX0 7, w ∈ wsX0_addToAll := by decide +kernel
  generalize hRd : pf_X0_addToAll sc p0 tn = Rz at hRn
  have hRz := hRn
  refine kv_Q (fun Q hQ => ?_)
  refine W.eq (show entryFrame m args 3 = _ from by rw [hv0, lg_entry_eq]) ?_
  have hl := lv_entry ([.ref (ad 8), .int p0]) (n := 3) (Nat.le_of_ble_eq_true rfl)
  generalize (lg_sl ([.ref (ad 8), .int p0]) ++ List.replicate (3 - (lg_sl ([.ref (ad 8), .int p0])).length) Slot.unset).toArray = ls at hl ⊢
  have hl : lv_has ls 3 [(0, .ref (ad 8)), (1, .int p0)] := hl
  have e : Rz = pf_X0_addToAll sc p0 tn := hRd.symm
  rw [pf_X0_addToAll] at e
  have hb_2 : ∀ (n_2 : Nat), ∀ (x2 : Int32) (tn : Nat → Int32) (H : Heap) (locs : List Loc) (ls : Array Slot), va_P D vwCl (kv_kw ci ad kc kh ks fo kl kp dy mo n pa aE qp qm ql qv qc qe mt mv sw hv tk tn sc) H → va_D A (kv_kw ci ad kc kh ks fo kl kp dy mo n pa aE qp qm ql qv qc qe mt mv sw hv tk tn sc) → va_S A s.heap H locs → lv_has ls 3 [(0, .ref (ad 8)), (1, .int p0), (2, .int x2)] → Rz = pf_X0_addToAll_2 sc p0  n_2 x2 tn → W p l en rmX0_addToAll s m args below meth c H locs 0 0 Q (F0 m 2 ls []) := by
    intro n_2
    induction n_2 with
    | zero =>
      intro x2 tn H locs ls  _ _ _ _ e
      exact absurd e hRz
    | succ n_2 ih_2 =>
      intro x2 tn H locs ls  hP hD hS hl e
      rw [pf_X0_addToAll_2, pf_X0_addToAll_2b] at e
      refine lv_iload_n hx hb dX0_addToAll_2 rfl (lv_at hl 2 rfl) ?_
      refine lv_sipush (v := 256) hx hb dX0_addToAll_3 (by decide) ?_
      refine lv_icmp_ge (tgt := 43) hx hb dX0_addToAll_6 (by decide) (fun c_6 => ?_) (fun c_6 => ?_)
      · have e := e.trans (if_pos c_6)
        rw [hQ]
        exact W.vret hx hb hr (fun t ht hW => ⟨⟨(tn), rfl, e, ⟨by rw [ht]; exact hP, by rw [hAe]; exact hD⟩⟩, hS.F ht⟩) hS.2.2 dX0_addToAll_43
      · have e := e.trans (if_neg c_6)
        refine lv_aload_n hx hb dX0_addToAll_9 rfl (lv_at hl 0 rfl) ?_
        refine va_get (D := D) (ci := 1) (v := .ref (ad 14)) (C := RX0) (T := TX0) (N := 7) hx hb hts hinRX0 hown hK hP 8 rfl rfl 6 (by decide) (hts (.fieldLink RX0 31 "LicenceKeeper$Layings" "setCovers" "[I") (by decide +kernel)) (fun _ h9 => h9) rfl dX0_addToAll_10 ?_
        refine lv_iload_n hx hb dX0_addToAll_13 rfl (lv_at hl 2 rfl) ?_
        obtain ⟨hi_14, e⟩ := kv_G_e e hRz
        refine kv_iald hx hb hK hP 14 0 hi_14 dX0_addToAll_14 rfl rfl (fun y_14 ey_14 => ?_)
        have e := kv_T_e e ey_14
        refine lv_iconst (v := (-1)) hx hb dX0_addToAll_15 (by decide) ?_
        refine lv_icmp_eq (tgt := 37) hx hb dX0_addToAll_16 (by decide) (fun c_16 => ?_) (fun c_16 => ?_)
        · have e := e.trans (if_pos c_16)
          refine lv_iinc (v := x2 + 1) (lv' := [(2, .int (x2 + 1)), (0, .ref (ad 8)), (1, .int p0)]) hx hb dX0_addToAll_37 hl (k := 2) rfl rfl (by decide) rfl (fun ls hl => ?_)
          refine lv_goto (tgt := 2) hx hb dX0_addToAll_40 (by decide) ?_
          exact ih_2 (x2 + 1) tn _ _ _  hP hD hS (lv_sub hl [1, 2, 0] rfl) e
        · have e := e.trans (if_neg c_16)
          refine lv_aload_n hx hb dX0_addToAll_19 rfl (lv_at hl 0 rfl) ?_
          refine va_get (D := D) (ci := 1) (v := .ref (ad 13)) (C := RX0) (T := TX0) (N := 7) hx hb hts hinRX0 hown hK hP 8 rfl rfl 5 (by decide) (hts (.fieldLink RX0 28 "LicenceKeeper$Layings" "takenNext" "[I") (by decide +kernel)) (fun _ h9 => h9) rfl dX0_addToAll_20 ?_
          refine lv_iload_n hx hb dX0_addToAll_23 rfl (lv_at hl 1 rfl) ?_
          refine lv_aload_n hx hb dX0_addToAll_24 rfl (lv_at hl 0 rfl) ?_
          refine va_get (D := D) (ci := 1) (v := .ref (ad 14)) (C := RX0) (T := TX0) (N := 7) hx hb hts hinRX0 hown hK hP 8 rfl rfl 6 (by decide) (hts (.fieldLink RX0 31 "LicenceKeeper$Layings" "setCovers" "[I") (by decide +kernel)) (fun _ h9 => h9) rfl dX0_addToAll_25 ?_
          refine lv_iload_n hx hb dX0_addToAll_28 rfl (lv_at hl 2 rfl) ?_
          obtain ⟨hi_29, e⟩ := kv_G_e e hRz
          refine kv_iald hx hb hK hP 14 0 hi_29 dX0_addToAll_29 rfl rfl (fun y_29 ey_29 => ?_)
          have e := kv_T_e e ey_29
          refine lv_ior hx hb dX0_addToAll_30 ?_
          refine lv_sipush (v := 255) hx hb dX0_addToAll_31 (by decide) ?_
          refine lv_iand hx hb dX0_addToAll_34 ?_
          refine lv_iconst (v := 0) hx hb dX0_addToAll_35 (by decide) ?_
          obtain ⟨hi_36, e⟩ := kv_G_e e hRz
          refine kv_iast hx hb hK hP hD hS 13 0 (fun g_36 => (kv_kw ci ad kc kh ks fo kl kp dy mo n pa aE qp qm ql qv qc qe mt mv sw hv tk g_36 sc)) hi_36 dX0_addToAll_36 rfl rfl (fun _ => rfl) (fun g_36 H locs eg_36 hP hD hS => ?_)
          have e := kv_T_e e eg_36
          refine lv_iinc (v := x2 + 1) (lv' := [(2, .int (x2 + 1)), (0, .ref (ad 8)), (1, .int p0)]) hx hb dX0_addToAll_37 hl (k := 2) rfl rfl (by decide) rfl (fun ls hl => ?_)
          refine lv_goto (tgt := 2) hx hb dX0_addToAll_40 (by decide) ?_
          exact ih_2 (x2 + 1) g_36 _ _ _  hP hD hS (lv_sub hl [1, 2, 0] rfl) e
  refine lv_iconst (v := 0) hx hb dX0_addToAll_0 (by decide) ?_
  refine lv_istore_n (lv' := [(2, .int 0), (0, .ref (ad 8)), (1, .int p0)]) hx hb dX0_addToAll_1 rfl hl (by decide) rfl (fun ls hl => ?_)
  exact hb_2 kv_F 0 tn _ _ _  hP hD hS (lv_sub hl [1, 2, 0] rfl) e

def pf_X0_coverOfSet_8b (mt : Nat → Int32) (mv : Nat → Int32) (p0 : Int32) (p1 : Int32)  (k_8 : Int32 → Int32 → Int32 → Option (Int32)) (x3 : Int32) (x4 : Int32) (x5 : Int32)  : Option (Int32) :=
  if 8 ≤ x5 then if p1 < x3 then some ((-1)) else some (x4) else if (p0 &&& (1 <<< (x5 &&& 31))) = 0 then k_8 x3 x4 (x5 + 1) else kv_G x5 8 (kv_T (mt x5.toNatClampNeg) (fun y_31 => kv_T (x3 + y_31) (fun y_33 => kv_G x5 8 (kv_T (mv x5.toNatClampNeg) (fun y_42 => kv_T (x4 ||| y_42) (fun y_44 => k_8 y_33 y_44 (x5 + 1)))))))
def pf_X0_coverOfSet_8 (mt : Nat → Int32) (mv : Nat → Int32) (p0 : Int32) (p1 : Int32)  : Nat → Int32 → Int32 → Int32 → Option (Int32)
  | 0, _, _, _ => none
  | nn + 1, x3, x4, x5 => pf_X0_coverOfSet_8b mt mv p0 p1  (pf_X0_coverOfSet_8 mt mv p0 p1  nn) x3 x4 x5
def pf_X0_coverOfSet (mt : Nat → Int32) (mv : Nat → Int32) (p0 : Int32) (p1 : Int32)  : Option (Int32) :=
  pf_X0_coverOfSet_8 mt mv p0 p1 kv_F 0 0 0
abbrev rmX0_coverOfSet : Room := { frames := 0, cells := 0, slots := 0, locals := 0 }
set_option maxHeartbeats 4000000 in
set_option maxRecDepth 100000 in
theorem c_X0_coverOfSet (l : Launch) (D : va_G) (ci ad : Nat → Nat) (kc : Nat → Int32) (kh : Nat → Int32) (ks : Nat → Int32) (fo : Nat → Nat → Int32) (kl : Nat → Int32) (kp : Nat → Int32) (dy : Int32) (mo : Int32) (n : Nat) (pa : Nat → Nat) (aE : Nat) (qp : Nat → Int32) (qm : Nat → Int32) (ql : Nat → Int32) (qv : Nat → Int32) (qc : Nat → Int32) (qe : Nat → Int32) (mt : Nat → Int32) (mv : Nat → Int32) (sw : Nat → Int32) (hv : Int32) (tk : Nat → Int32) (tn : Nat → Int32) (sc : Nat → Int32) (p0 : Int32) (p1 : Int32)  (hRn : pf_X0_coverOfSet mt mv p0 p1 ≠ none) (sz : Nat) : Met l yX0_coverOfSet wsX0_coverOfSet rmX0_coverOfSet (va_Pc [.ref (ad 8), .int p0, .int p1] (kv_pre D ci (kv_kw ci ad kc kh ks fo kl kp dy mo n pa aE qp qm ql qv qc qe mt mv sw hv tk tn sc) sz)) (va_Qi (fun (r : Int32) (u : Unit) => pf_X0_coverOfSet mt mv p0 p1 = some (r)) (fun u t => kv_post D (kv_kw ci ad kc kh ks fo kl kp dy mo n pa aE qp qm ql qv qc qe mt mv sw hv tk tn sc) sz (kv_kw ci ad kc kh ks fo kl kp dy mo n pa aE qp qm ql qv qc qe mt mv sw hv tk tn sc) t) (va_A (kv_kw ci ad kc kh ks fo kl kp dy mo n pa aE qp qm ql qv qc qe mt mv sw hv tk tn sc) sz)) 0 0 (va_A (kv_kw ci ad kc kh ks fo kl kp dy mo n pa aE qp qm ql qv qc qe mt mv sw hv tk tn sc) sz) := by
  refine Met.ofW (cc := cX0_coverOfSet) (maxL := 6) (ret := (some .int)) (by decide) rfl ?_
  intro p en s m args below meth c s₁ B hml hv
  obtain ⟨hv0, hsz, hP, hK, hD0⟩ := hv
  have hx := B.exec
  have hb := B.bytes
  have hr := B.returns
  have hts := atoms_spec (ws := wsX0_coverOfSet) B.pre
  have hown : s.vm.findClass RX0 = some m.cls := findClass_of_methodNamed B.named
  have hlocks := B.notSynchronized
  subst hsz
  have hD := hD0.self (sz := s.heap.size)
  generalize hAe : va_A (kv_kw ci ad kc kh ks fo kl kp dy mo n pa aE qp qm ql qv qc qe mt mv sw hv tk tn sc) s.heap.size = A at hD ⊢
  have hA : ∀ q : Nat, s.heap.size ≤ q → A q := fun q h => by rw [← hAe]; exact Or.inr h
  have hS : va_S A s.heap s.heap [] := va_S.rf
  have hP : va_P D vwCl (kv_kw ci ad kc kh ks fo kl kp dy mo n pa aE qp qm ql qv qc qe mt mv sw hv tk tn sc) s.heap := hP
  have hinRX0 : ∀ w ∈ u_ws RX0 TX0 7, w ∈ wsX0_coverOfSet := by decide +kernel
  generalize hRd : pf_X0_coverOfSet mt mv p0 p1 = Rz at hRn
  have hRz := hRn
  refine kv_Q (fun Q hQ => ?_)
  refine W.eq (show entryFrame m args 6 = _ from by rw [hv0, lg_entry_eq]) ?_
  have hl := lv_entry ([.ref (ad 8), .int p0, .int p1]) (n := 6) (Nat.le_of_ble_eq_true rfl)
  generalize (lg_sl ([.ref (ad 8), .int p0, .int p1]) ++ List.replicate (6 - (lg_sl ([.ref (ad 8), .int p0, .int p1])).length) Slot.unset).toArray = ls at hl ⊢
  have hl : lv_has ls 6 [(0, .ref (ad 8)), (1, .int p0), (2, .int p1)] := hl
  have e : Rz = pf_X0_coverOfSet mt mv p0 p1 := hRd.symm
  rw [pf_X0_coverOfSet] at e
  have hb_8 : ∀ (n_8 : Nat), ∀ (x3 : Int32) (x4 : Int32) (x5 : Int32) (H : Heap) (locs : List Loc) (ls : Array Slot), va_P D vwCl (kv_kw ci ad kc kh ks fo kl kp dy mo n pa aE qp qm ql qv qc qe mt mv sw hv tk tn sc) H → va_D A (kv_kw ci ad kc kh ks fo kl kp dy mo n pa aE qp qm ql qv qc qe mt mv sw hv tk tn sc) → va_S A s.heap H locs → lv_has ls 6 [(0, .ref (ad 8)), (1, .int p0), (2, .int p1), (3, .int x3), (4, .int x4), (5, .int x5)] → Rz = pf_X0_coverOfSet_8 mt mv p0 p1  n_8 x3 x4 x5 → W p l en rmX0_coverOfSet s m args below meth c H locs 0 0 Q (F0 m 8 ls []) := by
    intro n_8
    induction n_8 with
    | zero =>
      intro x3 x4 x5 H locs ls  _ _ _ _ e
      exact absurd e hRz
    | succ n_8 ih_8 =>
      intro x3 x4 x5 H locs ls  hP hD hS hl e
      rw [pf_X0_coverOfSet_8, pf_X0_coverOfSet_8b] at e
      refine lv_iload hx hb dX0_coverOfSet_8 (lv_at hl 5 rfl) ?_
      refine lv_bipush (v := 8) hx hb dX0_coverOfSet_10 (by decide) ?_
      refine lv_icmp_ge (tgt := 52) hx hb dX0_coverOfSet_12 (by decide) (fun c_12 => ?_) (fun c_12 => ?_)
      · have e := e.trans (if_pos c_12)
        refine lv_iload_n hx hb dX0_coverOfSet_52 rfl (lv_at hl 3 rfl) ?_
        refine lv_iload_n hx hb dX0_coverOfSet_53 rfl (lv_at hl 2 rfl) ?_
        refine lv_icmp_gt (tgt := 62) hx hb dX0_coverOfSet_54 (by decide) (fun c_54 => ?_) (fun c_54 => ?_)
        · have e := e.trans (if_pos c_54)
          refine lv_iconst (v := (-1)) hx hb dX0_coverOfSet_62 (by decide) ?_
          rw [hQ]
          exact W.iret (v := (-1)) hx hb hr (fun t ht hW => ⟨⟨(-1), (), rfl, e, ⟨by rw [ht]; exact hP, by rw [hAe]; exact hD⟩⟩, hS.F ht⟩) hS.2.2 dX0_coverOfSet_63
        · have e := e.trans (if_neg c_54)
          refine lv_iload hx hb dX0_coverOfSet_57 (lv_at hl 4 rfl) ?_
          refine lv_goto (tgt := 63) hx hb dX0_coverOfSet_59 (by decide) ?_
          rw [hQ]
          exact W.iret (v := x4) hx hb hr (fun t ht hW => ⟨⟨x4, (), rfl, e, ⟨by rw [ht]; exact hP, by rw [hAe]; exact hD⟩⟩, hS.F ht⟩) hS.2.2 dX0_coverOfSet_63
      · have e := e.trans (if_neg c_12)
        refine lv_iload_n hx hb dX0_coverOfSet_15 rfl (lv_at hl 1 rfl) ?_
        refine lv_iconst (v := 1) hx hb dX0_coverOfSet_16 (by decide) ?_
        refine lv_iload hx hb dX0_coverOfSet_17 (lv_at hl 5 rfl) ?_
        refine lv_ishl hx hb dX0_coverOfSet_19 ?_
        refine lv_iand hx hb dX0_coverOfSet_20 ?_
        refine lv_if_eq (tgt := 46) hx hb dX0_coverOfSet_21 (by decide) (fun c_21 => ?_) (fun c_21 => ?_)
        · have e := e.trans (if_pos c_21)
          refine lv_iinc (v := x5 + 1) (lv' := [(5, .int (x5 + 1)), (0, .ref (ad 8)), (1, .int p0), (2, .int p1), (3, .int x3), (4, .int x4)]) hx hb dX0_coverOfSet_46 hl (k := 5) rfl rfl (by decide) rfl (fun ls hl => ?_)
          refine lv_goto (tgt := 8) hx hb dX0_coverOfSet_49 (by decide) ?_
          exact ih_8 x3 x4 (x5 + 1) _ _ _  hP hD hS (lv_sub hl [1, 2, 3, 4, 5, 0] rfl) e
        · have e := e.trans (if_neg c_21)
          refine lv_iload_n hx hb dX0_coverOfSet_24 rfl (lv_at hl 3 rfl) ?_
          refine lv_aload_n hx hb dX0_coverOfSet_25 rfl (lv_at hl 0 rfl) ?_
          refine va_get (D := D) (ci := 1) (v := .ref (ad 9)) (C := RX0) (T := TX0) (N := 7) hx hb hts hinRX0 hown hK hP 8 rfl rfl 0 (by decide) (hts (.fieldLink RX0 9 "LicenceKeeper$Layings" "machineTakes" "[I") (by decide +kernel)) (fun _ h9 => h9) rfl dX0_coverOfSet_26 ?_
          refine lv_iload hx hb dX0_coverOfSet_29 (lv_at hl 5 rfl) ?_
          obtain ⟨hi_31, e⟩ := kv_G_e e hRz
          refine kv_iald hx hb hK hP 9 0 hi_31 dX0_coverOfSet_31 rfl rfl (fun y_31 ey_31 => ?_)
          have e := kv_T_e e ey_31
          refine lv_iadd hx hb dX0_coverOfSet_32 ?_
          refine lv_topi (fun y_33 ey_33 => ?_)
          have e := kv_T_e e ey_33
          refine lv_istore_n (lv' := [(3, .int y_33), (0, .ref (ad 8)), (1, .int p0), (2, .int p1), (4, .int x4), (5, .int x5)]) hx hb dX0_coverOfSet_33 rfl hl (by decide) rfl (fun ls hl => ?_)
          refine lv_iload hx hb dX0_coverOfSet_34 (lv_at hl 4 rfl) ?_
          refine lv_aload_n hx hb dX0_coverOfSet_36 rfl (lv_at hl 1 rfl) ?_
          refine va_get (D := D) (ci := 1) (v := .ref (ad 10)) (C := RX0) (T := TX0) (N := 7) hx hb hts hinRX0 hown hK hP 8 rfl rfl 1 (by decide) (hts (.fieldLink RX0 15 "LicenceKeeper$Layings" "machineCovers" "[I") (by decide +kernel)) (fun _ h9 => h9) rfl dX0_coverOfSet_37 ?_
          refine lv_iload hx hb dX0_coverOfSet_40 (lv_at hl 5 rfl) ?_
          obtain ⟨hi_42, e⟩ := kv_G_e e hRz
          refine kv_iald hx hb hK hP 10 0 hi_42 dX0_coverOfSet_42 rfl rfl (fun y_42 ey_42 => ?_)
          have e := kv_T_e e ey_42
          refine lv_ior hx hb dX0_coverOfSet_43 ?_
          refine lv_topi (fun y_44 ey_44 => ?_)
          have e := kv_T_e e ey_44
          refine lv_istore (lv' := [(4, .int y_44), (3, .int y_33), (0, .ref (ad 8)), (1, .int p0), (2, .int p1), (5, .int x5)]) hx hb dX0_coverOfSet_44 hl (by decide) rfl (fun ls hl => ?_)
          refine lv_iinc (v := x5 + 1) (lv' := [(5, .int (x5 + 1)), (4, .int y_44), (3, .int y_33), (0, .ref (ad 8)), (1, .int p0), (2, .int p1)]) hx hb dX0_coverOfSet_46 hl (k := 5) rfl rfl (by decide) rfl (fun ls hl => ?_)
          refine lv_goto (tgt := 8) hx hb dX0_coverOfSet_49 (by decide) ?_
          exact ih_8 y_33 y_44 (x5 + 1) _ _ _  hP hD hS (lv_sub hl [3, 4, 5, 2, 1, 0] rfl) e
  refine lv_iconst (v := 0) hx hb dX0_coverOfSet_0 (by decide) ?_
  refine lv_istore_n (lv' := [(3, .int 0), (0, .ref (ad 8)), (1, .int p0), (2, .int p1)]) hx hb dX0_coverOfSet_1 rfl hl (by decide) rfl (fun ls hl => ?_)
  refine lv_iconst (v := 0) hx hb dX0_coverOfSet_2 (by decide) ?_
  refine lv_istore (lv' := [(4, .int 0), (3, .int 0), (0, .ref (ad 8)), (1, .int p0), (2, .int p1)]) hx hb dX0_coverOfSet_3 hl (by decide) rfl (fun ls hl => ?_)
  refine lv_iconst (v := 0) hx hb dX0_coverOfSet_5 (by decide) ?_
  refine lv_istore (lv' := [(5, .int 0), (4, .int 0), (3, .int 0), (0, .ref (ad 8)), (1, .int p0), (2, .int p1)]) hx hb dX0_coverOfSet_6 hl (by decide) rfl (fun ls hl => ?_)
  exact hb_8 kv_F 0 0 0 _ _ _  hP hD hS (lv_sub hl [3, 4, 5, 2, 1, 0] rfl) e

def pf_X0_layOnAllSets_38b (mt : Nat → Int32) (mv : Nat → Int32) (p0 : Int32)  (k_38 : Int32 → (Nat → Int32) → (Nat → Int32) → (Nat → Int32) → Option ((Nat → Int32) × (Nat → Int32) × (Nat → Int32))) (x2 : Int32) (tk : Nat → Int32) (tn : Nat → Int32) (sc : Nat → Int32) : Option ((Nat → Int32) × (Nat → Int32) × (Nat → Int32)) :=
  if 256 ≤ x2 then kv_T (va_cpy tn tk (0 : Int32).toNatClampNeg (0 : Int32).toNatClampNeg (256 : Int32).toNatClampNeg) (fun g_78 => some (g_78, tn, sc)) else kv_G x2 256 (kv_T (tk x2.toNatClampNeg) (fun y_50 => if y_50 = 0 then kv_q1 (pf_X0_addToAll sc x2 tn) (fun u_56 => k_38 (x2 + 1) tk u_56 sc) else k_38 (x2 + 1) tk tn sc))
def pf_X0_layOnAllSets_38 (mt : Nat → Int32) (mv : Nat → Int32) (p0 : Int32)  : Nat → Int32 → (Nat → Int32) → (Nat → Int32) → (Nat → Int32) → Option ((Nat → Int32) × (Nat → Int32) × (Nat → Int32))
  | 0, _, _, _, _ => none
  | nn + 1, x2, tk, tn, sc => pf_X0_layOnAllSets_38b mt mv p0  (pf_X0_layOnAllSets_38 mt mv p0  nn) x2 tk tn sc
def pf_X0_layOnAllSets_2b (mt : Nat → Int32) (mv : Nat → Int32) (p0 : Int32)  (k_2 : Int32 → (Nat → Int32) → (Nat → Int32) → (Nat → Int32) → Option ((Nat → Int32) × (Nat → Int32) × (Nat → Int32))) (x2 : Int32) (tk : Nat → Int32) (tn : Nat → Int32) (sc : Nat → Int32) : Option ((Nat → Int32) × (Nat → Int32) × (Nat → Int32)) :=
  if 256 ≤ x2 then kv_T (kv_fill tn 256 1000000) (fun g_33 => pf_X0_layOnAllSets_38 mt mv p0 kv_F 0 tk g_33 sc) else kv_q1 (pf_X0_coverOfSet mt mv x2 p0) (fun r_17 => kv_G x2 256 (kv_T (upd sc x2.toNatClampNeg r_17) (fun g_20 => k_2 (x2 + 1) tk tn g_20)))
def pf_X0_layOnAllSets_2 (mt : Nat → Int32) (mv : Nat → Int32) (p0 : Int32)  : Nat → Int32 → (Nat → Int32) → (Nat → Int32) → (Nat → Int32) → Option ((Nat → Int32) × (Nat → Int32) × (Nat → Int32))
  | 0, _, _, _, _ => none
  | nn + 1, x2, tk, tn, sc => pf_X0_layOnAllSets_2b mt mv p0  (pf_X0_layOnAllSets_2 mt mv p0  nn) x2 tk tn sc
def pf_X0_layOnAllSets (mt : Nat → Int32) (mv : Nat → Int32) (p0 : Int32) (tk : Nat → Int32) (tn : Nat → Int32) (sc : Nat → Int32) : Option ((Nat → Int32) × (Nat → Int32) × (Nat → Int32)) :=
  pf_X0_layOnAllSets_2 mt mv p0 kv_F 0 tk tn sc
abbrev rmX0_layOnAllSets : Room := { frames := 1, cells := 0, slots := 0, locals := 40 }
set_option maxHeartbeats 4000000 in
set_option maxRecDepth 100000 in
theorem c_X0_layOnAllSets (l : Launch) (D : va_G) (ci ad : Nat → Nat) (kc : Nat → Int32) (kh : Nat → Int32) (ks : Nat → Int32) (fo : Nat → Nat → Int32) (kl : Nat → Int32) (kp : Nat → Int32) (dy : Int32) (mo : Int32) (n : Nat) (pa : Nat → Nat) (aE : Nat) (qp : Nat → Int32) (qm : Nat → Int32) (ql : Nat → Int32) (qv : Nat → Int32) (qc : Nat → Int32) (qe : Nat → Int32) (mt : Nat → Int32) (mv : Nat → Int32) (sw : Nat → Int32) (hv : Int32) (tk : Nat → Int32) (tn : Nat → Int32) (sc : Nat → Int32) (p0 : Int32)  (hRn : pf_X0_layOnAllSets mt mv p0 tk tn sc ≠ none) (sz : Nat) : Met l yX0_layOnAllSets wsX0_layOnAllSets rmX0_layOnAllSets (va_Pc [.ref (ad 8), .int p0] (kv_pre D ci (kv_kw ci ad kc kh ks fo kl kp dy mo n pa aE qp qm ql qv qc qe mt mv sw hv tk tn sc) sz)) (va_Qv (fun (u : (Nat → Int32) × (Nat → Int32) × (Nat → Int32)) => pf_X0_layOnAllSets mt mv p0 tk tn sc = some (u)) (fun u t => kv_post D (kv_kw ci ad kc kh ks fo kl kp dy mo n pa aE qp qm ql qv qc qe mt mv sw hv tk tn sc) sz (kv_kw ci ad kc kh ks fo kl kp dy mo n pa aE qp qm ql qv qc qe mt mv sw hv u.1 u.2.1 u.2.2) t) (va_A (kv_kw ci ad kc kh ks fo kl kp dy mo n pa aE qp qm ql qv qc qe mt mv sw hv tk tn sc) sz)) 0 0 (va_A (kv_kw ci ad kc kh ks fo kl kp dy mo n pa aE qp qm ql qv qc qe mt mv sw hv tk tn sc) sz) := by
  refine Met.ofW (cc := cX0_layOnAllSets) (maxL := 3) (ret := none) (by decide) rfl ?_
  intro p en s m args below meth c s₁ B hml hv
  obtain ⟨hv0, hsz, hP, hK, hD0⟩ := hv
  have hx := B.exec
  have hb := B.bytes
  have hr := B.returns
  have hts := atoms_spec (ws := wsX0_layOnAllSets) B.pre
  have hown : s.vm.findClass RX0 = some m.cls := findClass_of_methodNamed B.named
  have hlocks := B.notSynchronized
  subst hsz
  have hD := hD0.self (sz := s.heap.size)
  generalize hAe : va_A (kv_kw ci ad kc kh ks fo kl kp dy mo n pa aE qp qm ql qv qc qe mt mv sw hv tk tn sc) s.heap.size = A at hD ⊢
  have hA : ∀ q : Nat, s.heap.size ≤ q → A q := fun q h => by rw [← hAe]; exact Or.inr h
  have hS : va_S A s.heap s.heap [] := va_S.rf
  have hP : va_P D vwCl (kv_kw ci ad kc kh ks fo kl kp dy mo n pa aE qp qm ql qv qc qe mt mv sw hv tk tn sc) s.heap := hP
  have hinRX0 : ∀ w ∈ u_ws RX0 TX0 7, w ∈ wsX0_layOnAllSets := by decide +kernel
  generalize hRd : pf_X0_layOnAllSets mt mv p0 tk tn sc = Rz at hRn
  have hRz := hRn
  refine kv_Q (fun Q hQ => ?_)
  refine W.eq (show entryFrame m args 3 = _ from by rw [hv0, lg_entry_eq]) ?_
  have hl := lv_entry ([.ref (ad 8), .int p0]) (n := 3) (Nat.le_of_ble_eq_true rfl)
  generalize (lg_sl ([.ref (ad 8), .int p0]) ++ List.replicate (3 - (lg_sl ([.ref (ad 8), .int p0])).length) Slot.unset).toArray = ls at hl ⊢
  have hl : lv_has ls 3 [(0, .ref (ad 8)), (1, .int p0)] := hl
  have e : Rz = pf_X0_layOnAllSets mt mv p0 tk tn sc := hRd.symm
  rw [pf_X0_layOnAllSets] at e
  have hb_38 : ∀ (n_38 : Nat), ∀ (x2 : Int32) (tk : Nat → Int32) (tn : Nat → Int32) (sc : Nat → Int32) (H : Heap) (locs : List Loc) (ls : Array Slot), va_P D vwCl (kv_kw ci ad kc kh ks fo kl kp dy mo n pa aE qp qm ql qv qc qe mt mv sw hv tk tn sc) H → va_D A (kv_kw ci ad kc kh ks fo kl kp dy mo n pa aE qp qm ql qv qc qe mt mv sw hv tk tn sc) → va_S A s.heap H locs → lv_has ls 3 [(0, .ref (ad 8)), (2, .int x2)] → Rz = pf_X0_layOnAllSets_38 mt mv p0  n_38 x2 tk tn sc → W p l en rmX0_layOnAllSets s m args below meth c H locs 0 0 Q (F0 m 38 ls []) := by
    intro n_38
    induction n_38 with
    | zero =>
      intro x2 tk tn sc H locs ls  _ _ _ _ e
      exact absurd e hRz
    | succ n_38 ih_38 =>
      intro x2 tk tn sc H locs ls  hP hD hS hl e
      rw [pf_X0_layOnAllSets_38, pf_X0_layOnAllSets_38b] at e
      refine lv_iload_n hx hb dX0_layOnAllSets_38 rfl (lv_at hl 1 rfl) ?_
      refine lv_sipush (v := 256) hx hb dX0_layOnAllSets_39 (by decide) ?_
      refine lv_icmp_ge (tgt := 65) hx hb dX0_layOnAllSets_42 (by decide) (fun c_42 => ?_) (fun c_42 => ?_)
      · have e := e.trans (if_pos c_42)
        refine lv_aload_n hx hb dX0_layOnAllSets_65 rfl (lv_at hl 0 rfl) ?_
        refine va_get (D := D) (ci := 1) (v := .ref (ad 13)) (C := RX0) (T := TX0) (N := 7) hx hb hts hinRX0 hown hK hP 8 rfl rfl 5 (by decide) (hts (.fieldLink RX0 28 "LicenceKeeper$Layings" "takenNext" "[I") (by decide +kernel)) (fun _ h9 => h9) rfl dX0_layOnAllSets_66 ?_
        refine lv_iconst (v := 0) hx hb dX0_layOnAllSets_69 (by decide) ?_
        refine lv_aload_n hx hb dX0_layOnAllSets_70 rfl (lv_at hl 0 rfl) ?_
        refine va_get (D := D) (ci := 1) (v := .ref (ad 12)) (C := RX0) (T := TX0) (N := 7) hx hb hts hinRX0 hown hK hP 8 rfl rfl 4 (by decide) (hts (.fieldLink RX0 25 "LicenceKeeper$Layings" "taken" "[I") (by decide +kernel)) (fun _ h9 => h9) rfl dX0_layOnAllSets_71 ?_
        refine lv_iconst (v := 0) hx hb dX0_layOnAllSets_74 (by decide) ?_
        refine lv_sipush (v := 256) hx hb dX0_layOnAllSets_75 (by decide) ?_
        refine va_copyi hx hb (hml.trans hl.1.symm) hown (hts (.methodLink RX0 58 arraycopyName) (by decide +kernel)) (hts (.native arraycopyName) (by decide +kernel)) (hts (.static arraycopyName) (by decide +kernel)) (hts (.initialized "java/lang/System") (by decide +kernel)) hK hP hD hS 13 12 0 0 rfl rfl rfl rfl rfl (by decide) (by decide) (by decide) (by decide) (by decide) (fun _ _ => rfl) (Nat.le_of_ble_eq_true rfl) (by decide +kernel) dX0_layOnAllSets_78 (fun H locs hP hD hS => ?_)
        have hP : va_P D vwCl (kv_kw ci ad kc kh ks fo kl kp dy mo n pa aE qp qm ql qv qc qe mt mv sw hv (va_cpy tn tk (0 : Int32).toNatClampNeg (0 : Int32).toNatClampNeg (256 : Int32).toNatClampNeg) tn sc) H := hP
        have hD : va_D A (kv_kw ci ad kc kh ks fo kl kp dy mo n pa aE qp qm ql qv qc qe mt mv sw hv (va_cpy tn tk (0 : Int32).toNatClampNeg (0 : Int32).toNatClampNeg (256 : Int32).toNatClampNeg) tn sc) := hD
        obtain ⟨g_78, eg_78⟩ : ∃ g, g = va_cpy tn tk (0 : Int32).toNatClampNeg (0 : Int32).toNatClampNeg (256 : Int32).toNatClampNeg := ⟨_, rfl⟩
        rw [← eg_78] at hP hD
        have e := kv_T_e e eg_78
        rw [hQ]
        exact W.vret hx hb hr (fun t ht hW => ⟨⟨(g_78, tn, sc), rfl, e, ⟨by rw [ht]; exact hP, by rw [hAe]; exact hD⟩⟩, hS.F ht⟩) hS.2.2 dX0_layOnAllSets_81
      · have e := e.trans (if_neg c_42)
        refine lv_aload_n hx hb dX0_layOnAllSets_45 rfl (lv_at hl 0 rfl) ?_
        refine va_get (D := D) (ci := 1) (v := .ref (ad 12)) (C := RX0) (T := TX0) (N := 7) hx hb hts hinRX0 hown hK hP 8 rfl rfl 4 (by decide) (hts (.fieldLink RX0 25 "LicenceKeeper$Layings" "taken" "[I") (by decide +kernel)) (fun _ h9 => h9) rfl dX0_layOnAllSets_46 ?_
        refine lv_iload_n hx hb dX0_layOnAllSets_49 rfl (lv_at hl 1 rfl) ?_
        obtain ⟨hi_50, e⟩ := kv_G_e e hRz
        refine kv_iald hx hb hK hP 12 0 hi_50 dX0_layOnAllSets_50 rfl rfl (fun y_50 ey_50 => ?_)
        have e := kv_T_e e ey_50
        refine lv_if_ne (tgt := 59) hx hb dX0_layOnAllSets_51 (by decide) (fun c_51 => ?_) (fun c_51 => ?_)
        · have e := e.trans (if_neg c_51)
          refine lv_iinc (v := x2 + 1) (lv' := [(2, .int (x2 + 1)), (0, .ref (ad 8))]) hx hb dX0_layOnAllSets_59 hl (k := 1) rfl rfl (by decide) rfl (fun ls hl => ?_)
          refine lv_goto (tgt := 38) hx hb dX0_layOnAllSets_62 (by decide) ?_
          exact ih_38 (x2 + 1) tk tn sc _ _ _  hP hD hS (lv_sub hl [1, 0] rfl) e
        · have e := e.trans (if_pos c_51)
          refine lv_aload_n hx hb dX0_layOnAllSets_54 rfl (lv_at hl 0 rfl) ?_
          refine lv_iload_n hx hb dX0_layOnAllSets_55 rfl (lv_at hl 1 rfl) ?_
          refine kv_callv (va_runV (As := [.int x2]) (rest := []) ⟨hx, hb, hml, hown, hts⟩ (c_X0_addToAll l D ci ad kc kh ks fo kl kp dy mo n pa aE qp qm ql qv qc qe mt mv sw hv tk tn sc x2 (kv_q1_n e hRz) H.size) (cwV 1 hts gX0_layOnAllSets_X0_addToAll rfl rfl rfl (by decide +kernel) ⟨Nat.le_of_ble_eq_true rfl, Nat.le_of_ble_eq_true rfl⟩) (kv_preV hK hP hD (r := (RX0, TX0, 7)) (q0 := 8) (k := 1) rfl rfl rfl) rfl rfl hl.1 rfl (lv_room (Nat.le_of_ble_eq_true rfl)) dX0_layOnAllSets_56 ⟨Nat.le_of_ble_eq_true rfl, Nat.le_of_ble_eq_true rfl⟩) hD hS hA (fun u_56 H locs hw_56 hP hD hS => ?_)
          have e := kv_q1_e e hw_56
          have hP : va_P D vwCl (kv_kw ci ad kc kh ks fo kl kp dy mo n pa aE qp qm ql qv qc qe mt mv sw hv tk u_56 sc) H := hP
          have hD : va_D A (kv_kw ci ad kc kh ks fo kl kp dy mo n pa aE qp qm ql qv qc qe mt mv sw hv tk u_56 sc) := hD
          refine lv_iinc (v := x2 + 1) (lv' := [(2, .int (x2 + 1)), (0, .ref (ad 8))]) hx hb dX0_layOnAllSets_59 hl (k := 1) rfl rfl (by decide) rfl (fun ls hl => ?_)
          refine lv_goto (tgt := 38) hx hb dX0_layOnAllSets_62 (by decide) ?_
          exact ih_38 (x2 + 1) tk u_56 sc _ _ _  hP hD hS (lv_sub hl [1, 0] rfl) e
  have hb_2 : ∀ (n_2 : Nat), ∀ (x2 : Int32) (tk : Nat → Int32) (tn : Nat → Int32) (sc : Nat → Int32) (H : Heap) (locs : List Loc) (ls : Array Slot), va_P D vwCl (kv_kw ci ad kc kh ks fo kl kp dy mo n pa aE qp qm ql qv qc qe mt mv sw hv tk tn sc) H → va_D A (kv_kw ci ad kc kh ks fo kl kp dy mo n pa aE qp qm ql qv qc qe mt mv sw hv tk tn sc) → va_S A s.heap H locs → lv_has ls 3 [(0, .ref (ad 8)), (1, .int p0), (2, .int x2)] → Rz = pf_X0_layOnAllSets_2 mt mv p0  n_2 x2 tk tn sc → W p l en rmX0_layOnAllSets s m args below meth c H locs 0 0 Q (F0 m 2 ls []) := by
    intro n_2
    induction n_2 with
    | zero =>
      intro x2 tk tn sc H locs ls  _ _ _ _ e
      exact absurd e hRz
    | succ n_2 ih_2 =>
      intro x2 tk tn sc H locs ls  hP hD hS hl e
      rw [pf_X0_layOnAllSets_2, pf_X0_layOnAllSets_2b] at e
      refine lv_iload_n hx hb dX0_layOnAllSets_2 rfl (lv_at hl 2 rfl) ?_
      refine lv_sipush (v := 256) hx hb dX0_layOnAllSets_3 (by decide) ?_
      refine lv_icmp_ge (tgt := 27) hx hb dX0_layOnAllSets_6 (by decide) (fun c_6 => ?_) (fun c_6 => ?_)
      · have e := e.trans (if_pos c_6)
        refine lv_aload_n hx hb dX0_layOnAllSets_27 rfl (lv_at hl 0 rfl) ?_
        refine va_get (D := D) (ci := 1) (v := .ref (ad 13)) (C := RX0) (T := TX0) (N := 7) hx hb hts hinRX0 hown hK hP 8 rfl rfl 5 (by decide) (hts (.fieldLink RX0 28 "LicenceKeeper$Layings" "takenNext" "[I") (by decide +kernel)) (fun _ h9 => h9) rfl dX0_layOnAllSets_28 ?_
        refine lv_ldc (v := 1000000) hx hb hown (hts (.constant RX0 34 1000000) (by decide +kernel)) dX0_layOnAllSets_31 ?_
        refine kv_callv (S := Nat → Int32) (wf := fun g9 => (kv_kw ci ad kc kh ks fo kl kp dy mo n pa aE qp qm ql qv qc qe mt mv sw hv tk g9 sc)) (va_runS (As := [.ref (ad 13), .int 1000000]) (rest := []) ⟨hx, hb, hml, hown, hts⟩ (c_K_fill l D ci (kv_kw ci ad kc kh ks fo kl kp dy mo n pa aE qp qm ql qv qc qe mt mv sw hv tk tn sc) 13 (ad 13) 256 tn 1000000 (fun g9 => (kv_kw ci ad kc kh ks fo kl kp dy mo n pa aE qp qm ql qv qc qe mt mv sw hv tk g9 sc)) (by decide) rfl (fun _ => rfl) H.size) (va_cwS 2 hts gX0_layOnAllSets_J7_fill_53178 rfl rfl rfl (by decide +kernel) ⟨Nat.le_of_ble_eq_true rfl, Nat.le_of_ble_eq_true rfl⟩) (kv_preS hK hP hD) rfl rfl hl.1 rfl (lv_room (Nat.le_of_ble_eq_true rfl)) dX0_layOnAllSets_33 ⟨Nat.le_of_ble_eq_true rfl, Nat.le_of_ble_eq_true rfl⟩) hD hS hA (fun g_33 H locs hw_33 hP hD hS => ?_)
        have e := kv_T_e e hw_33
        have hP : va_P D vwCl (kv_kw ci ad kc kh ks fo kl kp dy mo n pa aE qp qm ql qv qc qe mt mv sw hv tk g_33 sc) H := hP
        have hD : va_D A (kv_kw ci ad kc kh ks fo kl kp dy mo n pa aE qp qm ql qv qc qe mt mv sw hv tk g_33 sc) := hD
        refine lv_iconst (v := 0) hx hb dX0_layOnAllSets_36 (by decide) ?_
        refine lv_istore_n (lv' := [(2, .int 0), (0, .ref (ad 8)), (1, .int p0)]) hx hb dX0_layOnAllSets_37 rfl hl (by decide) rfl (fun ls hl => ?_)
        exact hb_38 kv_F 0 tk g_33 sc _ _ _  hP hD hS (lv_sub hl [1, 0] rfl) e
      · have e := e.trans (if_neg c_6)
        refine lv_aload_n hx hb dX0_layOnAllSets_9 rfl (lv_at hl 0 rfl) ?_
        refine va_get (D := D) (ci := 1) (v := .ref (ad 14)) (C := RX0) (T := TX0) (N := 7) hx hb hts hinRX0 hown hK hP 8 rfl rfl 6 (by decide) (hts (.fieldLink RX0 31 "LicenceKeeper$Layings" "setCovers" "[I") (by decide +kernel)) (fun _ h9 => h9) rfl dX0_layOnAllSets_10 ?_
        refine lv_iload_n hx hb dX0_layOnAllSets_13 rfl (lv_at hl 2 rfl) ?_
        refine lv_aload_n hx hb dX0_layOnAllSets_14 rfl (lv_at hl 0 rfl) ?_
        refine lv_iload_n hx hb dX0_layOnAllSets_15 rfl (lv_at hl 2 rfl) ?_
        refine lv_iload_n hx hb dX0_layOnAllSets_16 rfl (lv_at hl 1 rfl) ?_
        refine kv_calli (va_runV (As := [.int x2, .int p0]) (rest := [.int x2, .ref (ad 14)]) ⟨hx, hb, hml, hown, hts⟩ (c_X0_coverOfSet l D ci ad kc kh ks fo kl kp dy mo n pa aE qp qm ql qv qc qe mt mv sw hv tk tn sc x2 p0 (kv_q1_n e hRz) H.size) (cwV 2 hts gX0_layOnAllSets_X0_coverOfSet rfl rfl rfl (by decide +kernel) ⟨Nat.le_of_ble_eq_true rfl, Nat.le_of_ble_eq_true rfl⟩) (kv_preV hK hP hD (r := (RX0, TX0, 7)) (q0 := 8) (k := 1) rfl rfl rfl) rfl rfl hl.1 rfl (lv_room (Nat.le_of_ble_eq_true rfl)) dX0_layOnAllSets_17 ⟨Nat.le_of_ble_eq_true rfl, Nat.le_of_ble_eq_true rfl⟩) hD hS hA (fun r_17 u_17 H locs hw_17 hP hD hS => ?_)
        have e := kv_q1_e e hw_17
        obtain ⟨hi_20, e⟩ := kv_G_e e hRz
        refine kv_iast hx hb hK hP hD hS 14 0 (fun g_20 => (kv_kw ci ad kc kh ks fo kl kp dy mo n pa aE qp qm ql qv qc qe mt mv sw hv tk tn g_20)) hi_20 dX0_layOnAllSets_20 rfl rfl (fun _ => rfl) (fun g_20 H locs eg_20 hP hD hS => ?_)
        have e := kv_T_e e eg_20
        refine lv_iinc (v := x2 + 1) (lv' := [(2, .int (x2 + 1)), (0, .ref (ad 8)), (1, .int p0)]) hx hb dX0_layOnAllSets_21 hl (k := 2) rfl rfl (by decide) rfl (fun ls hl => ?_)
        refine lv_goto (tgt := 2) hx hb dX0_layOnAllSets_24 (by decide) ?_
        exact ih_2 (x2 + 1) tk tn g_20 _ _ _  hP hD hS (lv_sub hl [1, 2, 0] rfl) e
  refine lv_iconst (v := 0) hx hb dX0_layOnAllSets_0 (by decide) ?_
  refine lv_istore_n (lv' := [(2, .int 0), (0, .ref (ad 8)), (1, .int p0)]) hx hb dX0_layOnAllSets_1 rfl hl (by decide) rfl (fun ls hl => ?_)
  exact hb_2 kv_F 0 tk tn sc _ _ _  hP hD hS (lv_sub hl [1, 2, 0] rfl) e

def pf_X0_closeWithin_30 (p0 : Int32) (k_2 : Int32 → (Nat → Int32) → Option ((Nat → Int32))) (x2 : Int32) (z1 : Int32) (z2 : Int32) (tk : Nat → Int32) : Option ((Nat → Int32)) :=
  kv_G z1 256 (kv_T (upd tk z1.toNatClampNeg z2) (fun g_30 => k_2 (x2 + 1) g_30))
def pf_X0_closeWithin_2b (p0 : Int32)  (k_2 : Int32 → (Nat → Int32) → Option ((Nat → Int32))) (x2 : Int32) (tk : Nat → Int32) : Option ((Nat → Int32)) :=
  if 256 ≤ x2 then some (tk) else kv_G x2 256 (kv_T (tk x2.toNatClampNeg) (fun y_19 => if p0 < y_19 then pf_X0_closeWithin_30 p0 k_2 x2 x2 1000000 tk else pf_X0_closeWithin_30 p0 k_2 x2 x2 0 tk))
def pf_X0_closeWithin_2 (p0 : Int32)  : Nat → Int32 → (Nat → Int32) → Option ((Nat → Int32))
  | 0, _, _ => none
  | nn + 1, x2, tk => pf_X0_closeWithin_2b p0  (pf_X0_closeWithin_2 p0  nn) x2 tk
def pf_X0_closeWithin (p0 : Int32) (tk : Nat → Int32) : Option ((Nat → Int32)) :=
  pf_X0_closeWithin_2 p0 kv_F 0 tk
abbrev rmX0_closeWithin : Room := { frames := 0, cells := 0, slots := 0, locals := 0 }
set_option maxHeartbeats 4000000 in
set_option maxRecDepth 100000 in
theorem c_X0_closeWithin (l : Launch) (D : va_G) (ci ad : Nat → Nat) (kc : Nat → Int32) (kh : Nat → Int32) (ks : Nat → Int32) (fo : Nat → Nat → Int32) (kl : Nat → Int32) (kp : Nat → Int32) (dy : Int32) (mo : Int32) (n : Nat) (pa : Nat → Nat) (aE : Nat) (qp : Nat → Int32) (qm : Nat → Int32) (ql : Nat → Int32) (qv : Nat → Int32) (qc : Nat → Int32) (qe : Nat → Int32) (mt : Nat → Int32) (mv : Nat → Int32) (sw : Nat → Int32) (hv : Int32) (tk : Nat → Int32) (tn : Nat → Int32) (sc : Nat → Int32) (p0 : Int32)  (hRn : pf_X0_closeWithin p0 tk ≠ none) (sz : Nat) : Met l yX0_closeWithin wsX0_closeWithin rmX0_closeWithin (va_Pc [.ref (ad 8), .int p0] (kv_pre D ci (kv_kw ci ad kc kh ks fo kl kp dy mo n pa aE qp qm ql qv qc qe mt mv sw hv tk tn sc) sz)) (va_Qv (fun (u : (Nat → Int32)) => pf_X0_closeWithin p0 tk = some (u)) (fun u t => kv_post D (kv_kw ci ad kc kh ks fo kl kp dy mo n pa aE qp qm ql qv qc qe mt mv sw hv tk tn sc) sz (kv_kw ci ad kc kh ks fo kl kp dy mo n pa aE qp qm ql qv qc qe mt mv sw hv u tn sc) t) (va_A (kv_kw ci ad kc kh ks fo kl kp dy mo n pa aE qp qm ql qv qc qe mt mv sw hv tk tn sc) sz)) 0 0 (va_A (kv_kw ci ad kc kh ks fo kl kp dy mo n pa aE qp qm ql qv qc qe mt mv sw hv tk tn sc) sz) := by
  refine Met.ofW (cc := cX0_closeWithin) (maxL := 3) (ret := none) (by decide) rfl ?_
  intro p en s m args below meth c s₁ B hml hv
  obtain ⟨hv0, hsz, hP, hK, hD0⟩ := hv
  have hx := B.exec
  have hb := B.bytes
  have hr := B.returns
  have hts := atoms_spec (ws := wsX0_closeWithin) B.pre
  have hown : s.vm.findClass RX0 = some m.cls := findClass_of_methodNamed B.named
  have hlocks := B.notSynchronized
  subst hsz
  have hD := hD0.self (sz := s.heap.size)
  generalize hAe : va_A (kv_kw ci ad kc kh ks fo kl kp dy mo n pa aE qp qm ql qv qc qe mt mv sw hv tk tn sc) s.heap.size = A at hD ⊢
  have hA : ∀ q : Nat, s.heap.size ≤ q → A q := fun q h => by rw [← hAe]; exact Or.inr h
  have hS : va_S A s.heap s.heap [] := va_S.rf
  have hP : va_P D vwCl (kv_kw ci ad kc kh ks fo kl kp dy mo n pa aE qp qm ql qv qc qe mt mv sw hv tk tn sc) s.heap := hP
  have hinRX0 : ∀ w ∈ u_ws RX0 TX0 7, w ∈ wsX0_closeWithin := by decide +kernel
  generalize hRd : pf_X0_closeWithin p0 tk = Rz at hRn
  have hRz := hRn
  refine kv_Q (fun Q hQ => ?_)
  refine W.eq (show entryFrame m args 3 = _ from by rw [hv0, lg_entry_eq]) ?_
  have hl := lv_entry ([.ref (ad 8), .int p0]) (n := 3) (Nat.le_of_ble_eq_true rfl)
  generalize (lg_sl ([.ref (ad 8), .int p0]) ++ List.replicate (3 - (lg_sl ([.ref (ad 8), .int p0])).length) Slot.unset).toArray = ls at hl ⊢
  have hl : lv_has ls 3 [(0, .ref (ad 8)), (1, .int p0)] := hl
  have e : Rz = pf_X0_closeWithin p0 tk := hRd.symm
  rw [pf_X0_closeWithin] at e
  have hb_2 : ∀ (n_2 : Nat), ∀ (x2 : Int32) (tk : Nat → Int32) (H : Heap) (locs : List Loc) (ls : Array Slot), va_P D vwCl (kv_kw ci ad kc kh ks fo kl kp dy mo n pa aE qp qm ql qv qc qe mt mv sw hv tk tn sc) H → va_D A (kv_kw ci ad kc kh ks fo kl kp dy mo n pa aE qp qm ql qv qc qe mt mv sw hv tk tn sc) → va_S A s.heap H locs → lv_has ls 3 [(0, .ref (ad 8)), (1, .int p0), (2, .int x2)] → Rz = pf_X0_closeWithin_2 p0  n_2 x2 tk → W p l en rmX0_closeWithin s m args below meth c H locs 0 0 Q (F0 m 2 ls []) := by
    intro n_2
    induction n_2 with
    | zero =>
      intro x2 tk H locs ls  _ _ _ _ e
      exact absurd e hRz
    | succ n_2 ih_2 =>
      have hb_30 : ∀ (x2 : Int32) (z1 : Int32) (z2 : Int32) (tk : Nat → Int32) (H : Heap) (locs : List Loc) (ls : Array Slot), va_P D vwCl (kv_kw ci ad kc kh ks fo kl kp dy mo n pa aE qp qm ql qv qc qe mt mv sw hv tk tn sc) H → va_D A (kv_kw ci ad kc kh ks fo kl kp dy mo n pa aE qp qm ql qv qc qe mt mv sw hv tk tn sc) → va_S A s.heap H locs → lv_has ls 3 [(0, .ref (ad 8)), (1, .int p0), (2, .int x2)] → Rz = pf_X0_closeWithin_30 p0 (pf_X0_closeWithin_2 p0  n_2) x2 z1 z2 tk → W p l en rmX0_closeWithin s m args below meth c H locs 0 0 Q (F0 m 30 ls [.int z2, .int z1, .ref (ad 12)]) := by
        intro x2 z1 z2 tk H locs ls  hP hD hS hl e
        rw [pf_X0_closeWithin_30] at e
        obtain ⟨hi_30, e⟩ := kv_G_e e hRz
        refine kv_iast hx hb hK hP hD hS 12 0 (fun g_30 => (kv_kw ci ad kc kh ks fo kl kp dy mo n pa aE qp qm ql qv qc qe mt mv sw hv g_30 tn sc)) hi_30 dX0_closeWithin_30 rfl rfl (fun _ => rfl) (fun g_30 H locs eg_30 hP hD hS => ?_)
        have e := kv_T_e e eg_30
        refine lv_iinc (v := x2 + 1) (lv' := [(2, .int (x2 + 1)), (0, .ref (ad 8)), (1, .int p0)]) hx hb dX0_closeWithin_31 hl (k := 2) rfl rfl (by decide) rfl (fun ls hl => ?_)
        refine lv_goto (tgt := 2) hx hb dX0_closeWithin_34 (by decide) ?_
        exact ih_2 (x2 + 1) g_30 _ _ _  hP hD hS (lv_sub hl [1, 2, 0] rfl) e
      intro x2 tk H locs ls  hP hD hS hl e
      rw [pf_X0_closeWithin_2, pf_X0_closeWithin_2b] at e
      refine lv_iload_n hx hb dX0_closeWithin_2 rfl (lv_at hl 2 rfl) ?_
      refine lv_sipush (v := 256) hx hb dX0_closeWithin_3 (by decide) ?_
      refine lv_icmp_ge (tgt := 37) hx hb dX0_closeWithin_6 (by decide) (fun c_6 => ?_) (fun c_6 => ?_)
      · have e := e.trans (if_pos c_6)
        rw [hQ]
        exact W.vret hx hb hr (fun t ht hW => ⟨⟨(tk), rfl, e, ⟨by rw [ht]; exact hP, by rw [hAe]; exact hD⟩⟩, hS.F ht⟩) hS.2.2 dX0_closeWithin_37
      · have e := e.trans (if_neg c_6)
        refine lv_aload_n hx hb dX0_closeWithin_9 rfl (lv_at hl 0 rfl) ?_
        refine va_get (D := D) (ci := 1) (v := .ref (ad 12)) (C := RX0) (T := TX0) (N := 7) hx hb hts hinRX0 hown hK hP 8 rfl rfl 4 (by decide) (hts (.fieldLink RX0 25 "LicenceKeeper$Layings" "taken" "[I") (by decide +kernel)) (fun _ h9 => h9) rfl dX0_closeWithin_10 ?_
        refine lv_iload_n hx hb dX0_closeWithin_13 rfl (lv_at hl 2 rfl) ?_
        refine lv_aload_n hx hb dX0_closeWithin_14 rfl (lv_at hl 0 rfl) ?_
        refine va_get (D := D) (ci := 1) (v := .ref (ad 12)) (C := RX0) (T := TX0) (N := 7) hx hb hts hinRX0 hown hK hP 8 rfl rfl 4 (by decide) (hts (.fieldLink RX0 25 "LicenceKeeper$Layings" "taken" "[I") (by decide +kernel)) (fun _ h9 => h9) rfl dX0_closeWithin_15 ?_
        refine lv_iload_n hx hb dX0_closeWithin_18 rfl (lv_at hl 2 rfl) ?_
        obtain ⟨hi_19, e⟩ := kv_G_e e hRz
        refine kv_iald hx hb hK hP 12 0 hi_19 dX0_closeWithin_19 rfl rfl (fun y_19 ey_19 => ?_)
        have e := kv_T_e e ey_19
        refine lv_iload_n hx hb dX0_closeWithin_20 rfl (lv_at hl 1 rfl) ?_
        refine lv_icmp_gt (tgt := 28) hx hb dX0_closeWithin_21 (by decide) (fun c_21 => ?_) (fun c_21 => ?_)
        · have e := e.trans (if_pos c_21)
          refine lv_ldc (v := 1000000) hx hb hown (hts (.constant RX0 34 1000000) (by decide +kernel)) dX0_closeWithin_28 ?_
          exact hb_30 x2 x2 1000000 tk _ _ _  hP hD hS (lv_sub hl [0, 1, 2] rfl) e
        · have e := e.trans (if_neg c_21)
          refine lv_iconst (v := 0) hx hb dX0_closeWithin_24 (by decide) ?_
          refine lv_goto (tgt := 30) hx hb dX0_closeWithin_25 (by decide) ?_
          exact hb_30 x2 x2 0 tk _ _ _  hP hD hS (lv_sub hl [0, 1, 2] rfl) e
  refine lv_iconst (v := 0) hx hb dX0_closeWithin_0 (by decide) ?_
  refine lv_istore_n (lv' := [(2, .int 0), (0, .ref (ad 8)), (1, .int p0)]) hx hb dX0_closeWithin_1 rfl hl (by decide) rfl (fun ls hl => ?_)
  exact hb_2 kv_F 0 tk _ _ _  hP hD hS (lv_sub hl [1, 2, 0] rfl) e

def pf_X0_layOrNot_2b (p0 : Int32) (p1 : Int32)  (k_2 : Int32 → (Nat → Int32) → Option ((Nat → Int32))) (x3 : Int32) (tk : Nat → Int32) : Option ((Nat → Int32)) :=
  if 256 ≤ x3 then some (tk) else kv_T ((x3 ||| p0) &&& 255) (fun y_16 => kv_G y_16 256 (kv_T (tk y_16.toNatClampNeg) (fun y_30 => kv_G x3 256 (kv_T (tk x3.toNatClampNeg) (fun y_36 => kv_T (if (y_36 + p1) < y_30 then (y_36 + p1) else y_30) (fun y_39 => kv_G y_16 256 (kv_T (upd tk y_16.toNatClampNeg y_39) (fun g_42 => k_2 (x3 + 1) g_42))))))))
def pf_X0_layOrNot_2 (p0 : Int32) (p1 : Int32)  : Nat → Int32 → (Nat → Int32) → Option ((Nat → Int32))
  | 0, _, _ => none
  | nn + 1, x3, tk => pf_X0_layOrNot_2b p0 p1  (pf_X0_layOrNot_2 p0 p1  nn) x3 tk
def pf_X0_layOrNot (p0 : Int32) (p1 : Int32) (tk : Nat → Int32) : Option ((Nat → Int32)) :=
  pf_X0_layOrNot_2 p0 p1 kv_F 0 tk
abbrev rmX0_layOrNot : Room := { frames := 1, cells := 0, slots := 0, locals := 16 }
set_option maxHeartbeats 4000000 in
set_option maxRecDepth 100000 in
theorem c_X0_layOrNot (l : Launch) (D : va_G) (ci ad : Nat → Nat) (kc : Nat → Int32) (kh : Nat → Int32) (ks : Nat → Int32) (fo : Nat → Nat → Int32) (kl : Nat → Int32) (kp : Nat → Int32) (dy : Int32) (mo : Int32) (n : Nat) (pa : Nat → Nat) (aE : Nat) (qp : Nat → Int32) (qm : Nat → Int32) (ql : Nat → Int32) (qv : Nat → Int32) (qc : Nat → Int32) (qe : Nat → Int32) (mt : Nat → Int32) (mv : Nat → Int32) (sw : Nat → Int32) (hv : Int32) (tk : Nat → Int32) (tn : Nat → Int32) (sc : Nat → Int32) (p0 : Int32) (p1 : Int32)  (hRn : pf_X0_layOrNot p0 p1 tk ≠ none) (sz : Nat) : Met l yX0_layOrNot wsX0_layOrNot rmX0_layOrNot (va_Pc [.ref (ad 8), .int p0, .int p1] (kv_pre D ci (kv_kw ci ad kc kh ks fo kl kp dy mo n pa aE qp qm ql qv qc qe mt mv sw hv tk tn sc) sz)) (va_Qv (fun (u : (Nat → Int32)) => pf_X0_layOrNot p0 p1 tk = some (u)) (fun u t => kv_post D (kv_kw ci ad kc kh ks fo kl kp dy mo n pa aE qp qm ql qv qc qe mt mv sw hv tk tn sc) sz (kv_kw ci ad kc kh ks fo kl kp dy mo n pa aE qp qm ql qv qc qe mt mv sw hv u tn sc) t) (va_A (kv_kw ci ad kc kh ks fo kl kp dy mo n pa aE qp qm ql qv qc qe mt mv sw hv tk tn sc) sz)) 0 0 (va_A (kv_kw ci ad kc kh ks fo kl kp dy mo n pa aE qp qm ql qv qc qe mt mv sw hv tk tn sc) sz) := by
  refine Met.ofW (cc := cX0_layOrNot) (maxL := 5) (ret := none) (by decide) rfl ?_
  intro p en s m args below meth c s₁ B hml hv
  obtain ⟨hv0, hsz, hP, hK, hD0⟩ := hv
  have hx := B.exec
  have hb := B.bytes
  have hr := B.returns
  have hts := atoms_spec (ws := wsX0_layOrNot) B.pre
  have hown : s.vm.findClass RX0 = some m.cls := findClass_of_methodNamed B.named
  have hlocks := B.notSynchronized
  subst hsz
  have hD := hD0.self (sz := s.heap.size)
  generalize hAe : va_A (kv_kw ci ad kc kh ks fo kl kp dy mo n pa aE qp qm ql qv qc qe mt mv sw hv tk tn sc) s.heap.size = A at hD ⊢
  have hA : ∀ q : Nat, s.heap.size ≤ q → A q := fun q h => by rw [← hAe]; exact Or.inr h
  have hS : va_S A s.heap s.heap [] := va_S.rf
  have hP : va_P D vwCl (kv_kw ci ad kc kh ks fo kl kp dy mo n pa aE qp qm ql qv qc qe mt mv sw hv tk tn sc) s.heap := hP
  have hinRX0 : ∀ w ∈ u_ws RX0 TX0 7, w ∈ wsX0_layOrNot := by decide +kernel
  generalize hRd : pf_X0_layOrNot p0 p1 tk = Rz at hRn
  have hRz := hRn
  refine kv_Q (fun Q hQ => ?_)
  refine W.eq (show entryFrame m args 5 = _ from by rw [hv0, lg_entry_eq]) ?_
  have hl := lv_entry ([.ref (ad 8), .int p0, .int p1]) (n := 5) (Nat.le_of_ble_eq_true rfl)
  generalize (lg_sl ([.ref (ad 8), .int p0, .int p1]) ++ List.replicate (5 - (lg_sl ([.ref (ad 8), .int p0, .int p1])).length) Slot.unset).toArray = ls at hl ⊢
  have hl : lv_has ls 5 [(0, .ref (ad 8)), (1, .int p0), (2, .int p1)] := hl
  have e : Rz = pf_X0_layOrNot p0 p1 tk := hRd.symm
  rw [pf_X0_layOrNot] at e
  have hb_2 : ∀ (n_2 : Nat), ∀ (x3 : Int32) (tk : Nat → Int32) (H : Heap) (locs : List Loc) (ls : Array Slot), va_P D vwCl (kv_kw ci ad kc kh ks fo kl kp dy mo n pa aE qp qm ql qv qc qe mt mv sw hv tk tn sc) H → va_D A (kv_kw ci ad kc kh ks fo kl kp dy mo n pa aE qp qm ql qv qc qe mt mv sw hv tk tn sc) → va_S A s.heap H locs → lv_has ls 5 [(0, .ref (ad 8)), (1, .int p0), (2, .int p1), (3, .int x3)] → Rz = pf_X0_layOrNot_2 p0 p1  n_2 x3 tk → W p l en rmX0_layOrNot s m args below meth c H locs 0 0 Q (F0 m 2 ls []) := by
    intro n_2
    induction n_2 with
    | zero =>
      intro x3 tk H locs ls  _ _ _ _ e
      exact absurd e hRz
    | succ n_2 ih_2 =>
      intro x3 tk H locs ls  hP hD hS hl e
      rw [pf_X0_layOrNot_2, pf_X0_layOrNot_2b] at e
      refine lv_iload_n hx hb dX0_layOrNot_2 rfl (lv_at hl 3 rfl) ?_
      refine lv_sipush (v := 256) hx hb dX0_layOrNot_3 (by decide) ?_
      refine lv_icmp_ge (tgt := 49) hx hb dX0_layOrNot_6 (by decide) (fun c_6 => ?_) (fun c_6 => ?_)
      · have e := e.trans (if_pos c_6)
        rw [hQ]
        exact W.vret hx hb hr (fun t ht hW => ⟨⟨(tk), rfl, e, ⟨by rw [ht]; exact hP, by rw [hAe]; exact hD⟩⟩, hS.F ht⟩) hS.2.2 dX0_layOrNot_49
      · have e := e.trans (if_neg c_6)
        refine lv_iload_n hx hb dX0_layOrNot_9 rfl (lv_at hl 3 rfl) ?_
        refine lv_iload_n hx hb dX0_layOrNot_10 rfl (lv_at hl 1 rfl) ?_
        refine lv_ior hx hb dX0_layOrNot_11 ?_
        refine lv_sipush (v := 255) hx hb dX0_layOrNot_12 (by decide) ?_
        refine lv_iand hx hb dX0_layOrNot_15 ?_
        refine lv_topi (fun y_16 ey_16 => ?_)
        have e := kv_T_e e ey_16
        refine lv_istore (lv' := [(4, .int y_16), (0, .ref (ad 8)), (1, .int p0), (2, .int p1), (3, .int x3)]) hx hb dX0_layOrNot_16 hl (by decide) rfl (fun ls hl => ?_)
        refine lv_aload_n hx hb dX0_layOrNot_18 rfl (lv_at hl 1 rfl) ?_
        refine va_get (D := D) (ci := 1) (v := .ref (ad 12)) (C := RX0) (T := TX0) (N := 7) hx hb hts hinRX0 hown hK hP 8 rfl rfl 4 (by decide) (hts (.fieldLink RX0 25 "LicenceKeeper$Layings" "taken" "[I") (by decide +kernel)) (fun _ h9 => h9) rfl dX0_layOrNot_19 ?_
        refine lv_iload hx hb dX0_layOrNot_22 (lv_at hl 0 rfl) ?_
        refine lv_aload_n hx hb dX0_layOrNot_24 rfl (lv_at hl 1 rfl) ?_
        refine va_get (D := D) (ci := 1) (v := .ref (ad 12)) (C := RX0) (T := TX0) (N := 7) hx hb hts hinRX0 hown hK hP 8 rfl rfl 4 (by decide) (hts (.fieldLink RX0 25 "LicenceKeeper$Layings" "taken" "[I") (by decide +kernel)) (fun _ h9 => h9) rfl dX0_layOrNot_25 ?_
        refine lv_iload hx hb dX0_layOrNot_28 (lv_at hl 0 rfl) ?_
        obtain ⟨hi_30, e⟩ := kv_G_e e hRz
        refine kv_iald hx hb hK hP 12 0 hi_30 dX0_layOrNot_30 rfl rfl (fun y_30 ey_30 => ?_)
        have e := kv_T_e e ey_30
        refine lv_aload_n hx hb dX0_layOrNot_31 rfl (lv_at hl 1 rfl) ?_
        refine va_get (D := D) (ci := 1) (v := .ref (ad 12)) (C := RX0) (T := TX0) (N := 7) hx hb hts hinRX0 hown hK hP 8 rfl rfl 4 (by decide) (hts (.fieldLink RX0 25 "LicenceKeeper$Layings" "taken" "[I") (by decide +kernel)) (fun _ h9 => h9) rfl dX0_layOrNot_32 ?_
        refine lv_iload_n hx hb dX0_layOrNot_35 rfl (lv_at hl 4 rfl) ?_
        obtain ⟨hi_36, e⟩ := kv_G_e e hRz
        refine kv_iald hx hb hK hP 12 0 hi_36 dX0_layOrNot_36 rfl rfl (fun y_36 ey_36 => ?_)
        have e := kv_T_e e ey_36
        refine lv_iload_n hx hb dX0_layOrNot_37 rfl (lv_at hl 3 rfl) ?_
        refine lv_iadd hx hb dX0_layOrNot_38 ?_
        refine va_mmin hx hb (hml.trans hl.1.symm) hown (hts (.methodLink RX0 45 Lib.Math.min.name) (by decide +kernel)) (hts (.static Lib.Math.min.name) (by decide +kernel)) (hts (.initialized "java/lang/Math") (by decide +kernel)) (hts (.code Lib.Math.min.name Lib.Math.min.code 2 (some .int)) (by decide +kernel)) (Nat.le_of_ble_eq_true rfl) (Nat.le_of_ble_eq_true rfl) (Nat.le_of_ble_eq_true rfl) (Nat.le_of_ble_eq_true rfl) dX0_layOrNot_39 ?_
        refine lv_topi (fun y_39 ey_39 => ?_)
        have e := kv_T_e e ey_39
        obtain ⟨hi_42, e⟩ := kv_G_e e hRz
        refine kv_iast hx hb hK hP hD hS 12 0 (fun g_42 => (kv_kw ci ad kc kh ks fo kl kp dy mo n pa aE qp qm ql qv qc qe mt mv sw hv g_42 tn sc)) hi_42 dX0_layOrNot_42 rfl rfl (fun _ => rfl) (fun g_42 H locs eg_42 hP hD hS => ?_)
        have e := kv_T_e e eg_42
        refine lv_iinc (v := x3 + 1) (lv' := [(3, .int (x3 + 1)), (4, .int y_16), (0, .ref (ad 8)), (1, .int p0), (2, .int p1)]) hx hb dX0_layOrNot_43 hl (k := 4) rfl rfl (by decide) rfl (fun ls hl => ?_)
        refine lv_goto (tgt := 2) hx hb dX0_layOrNot_46 (by decide) ?_
        exact ih_2 (x3 + 1) g_42 _ _ _  hP hD hS (lv_sub hl [2, 3, 4, 0] rfl) e
  refine lv_iconst (v := 0) hx hb dX0_layOrNot_0 (by decide) ?_
  refine lv_istore_n (lv' := [(3, .int 0), (0, .ref (ad 8)), (1, .int p0), (2, .int p1)]) hx hb dX0_layOrNot_1 rfl hl (by decide) rfl (fun ls hl => ?_)
  exact hb_2 kv_F 0 tk _ _ _  hP hD hS (lv_sub hl [1, 2, 3, 0] rfl) e

def pf_X0_layOpen_2b (mt : Nat → Int32) (mv : Nat → Int32)  (k_2 : Int32 → (Nat → Int32) → Option ((Nat → Int32))) (x1 : Int32) (tk : Nat → Int32) : Option ((Nat → Int32)) :=
  if 8 ≤ x1 then some (tk) else kv_G x1 8 (kv_T (mv x1.toNatClampNeg) (fun y_13 => if y_13 = 0 then k_2 (x1 + 1) tk else kv_G x1 8 (kv_T (mv x1.toNatClampNeg) (fun y_23 => kv_G x1 8 (kv_T (mt x1.toNatClampNeg) (fun y_29 => kv_q1 (pf_X0_layOrNot y_23 y_29 tk) (fun u_30 => k_2 (x1 + 1) u_30)))))))
def pf_X0_layOpen_2 (mt : Nat → Int32) (mv : Nat → Int32)  : Nat → Int32 → (Nat → Int32) → Option ((Nat → Int32))
  | 0, _, _ => none
  | nn + 1, x1, tk => pf_X0_layOpen_2b mt mv  (pf_X0_layOpen_2 mt mv  nn) x1 tk
def pf_X0_layOpen (mt : Nat → Int32) (mv : Nat → Int32) (tk : Nat → Int32) : Option ((Nat → Int32)) :=
  pf_X0_layOpen_2 mt mv kv_F 0 tk
abbrev rmX0_layOpen : Room := { frames := 2, cells := 0, slots := 0, locals := 40 }
set_option maxHeartbeats 4000000 in
set_option maxRecDepth 100000 in
theorem c_X0_layOpen (l : Launch) (D : va_G) (ci ad : Nat → Nat) (kc : Nat → Int32) (kh : Nat → Int32) (ks : Nat → Int32) (fo : Nat → Nat → Int32) (kl : Nat → Int32) (kp : Nat → Int32) (dy : Int32) (mo : Int32) (n : Nat) (pa : Nat → Nat) (aE : Nat) (qp : Nat → Int32) (qm : Nat → Int32) (ql : Nat → Int32) (qv : Nat → Int32) (qc : Nat → Int32) (qe : Nat → Int32) (mt : Nat → Int32) (mv : Nat → Int32) (sw : Nat → Int32) (hv : Int32) (tk : Nat → Int32) (tn : Nat → Int32) (sc : Nat → Int32)   (hRn : pf_X0_layOpen mt mv tk ≠ none) (sz : Nat) : Met l yX0_layOpen wsX0_layOpen rmX0_layOpen (va_Pc [.ref (ad 8)] (kv_pre D ci (kv_kw ci ad kc kh ks fo kl kp dy mo n pa aE qp qm ql qv qc qe mt mv sw hv tk tn sc) sz)) (va_Qv (fun (u : (Nat → Int32)) => pf_X0_layOpen mt mv tk = some (u)) (fun u t => kv_post D (kv_kw ci ad kc kh ks fo kl kp dy mo n pa aE qp qm ql qv qc qe mt mv sw hv tk tn sc) sz (kv_kw ci ad kc kh ks fo kl kp dy mo n pa aE qp qm ql qv qc qe mt mv sw hv u tn sc) t) (va_A (kv_kw ci ad kc kh ks fo kl kp dy mo n pa aE qp qm ql qv qc qe mt mv sw hv tk tn sc) sz)) 0 0 (va_A (kv_kw ci ad kc kh ks fo kl kp dy mo n pa aE qp qm ql qv qc qe mt mv sw hv tk tn sc) sz) := by
  refine Met.ofW (cc := cX0_layOpen) (maxL := 2) (ret := none) (by decide) rfl ?_
  intro p en s m args below meth c s₁ B hml hv
  obtain ⟨hv0, hsz, hP, hK, hD0⟩ := hv
  have hx := B.exec
  have hb := B.bytes
  have hr := B.returns
  have hts := atoms_spec (ws := wsX0_layOpen) B.pre
  have hown : s.vm.findClass RX0 = some m.cls := findClass_of_methodNamed B.named
  have hlocks := B.notSynchronized
  subst hsz
  have hD := hD0.self (sz := s.heap.size)
  generalize hAe : va_A (kv_kw ci ad kc kh ks fo kl kp dy mo n pa aE qp qm ql qv qc qe mt mv sw hv tk tn sc) s.heap.size = A at hD ⊢
  have hA : ∀ q : Nat, s.heap.size ≤ q → A q := fun q h => by rw [← hAe]; exact Or.inr h
  have hS : va_S A s.heap s.heap [] := va_S.rf
  have hP : va_P D vwCl (kv_kw ci ad kc kh ks fo kl kp dy mo n pa aE qp qm ql qv qc qe mt mv sw hv tk tn sc) s.heap := hP
  have hinRX0 : ∀ w ∈ u_ws RX0 TX0 7, w ∈ wsX0_layOpen := by decide +kernel
  generalize hRd : pf_X0_layOpen mt mv tk = Rz at hRn
  have hRz := hRn
  refine kv_Q (fun Q hQ => ?_)
  refine W.eq (show entryFrame m args 2 = _ from by rw [hv0, lg_entry_eq]) ?_
  have hl := lv_entry ([.ref (ad 8)]) (n := 2) (Nat.le_of_ble_eq_true rfl)
  generalize (lg_sl ([.ref (ad 8)]) ++ List.replicate (2 - (lg_sl ([.ref (ad 8)])).length) Slot.unset).toArray = ls at hl ⊢
  have hl : lv_has ls 2 [(0, .ref (ad 8))] := hl
  have e : Rz = pf_X0_layOpen mt mv tk := hRd.symm
  rw [pf_X0_layOpen] at e
  have hb_2 : ∀ (n_2 : Nat), ∀ (x1 : Int32) (tk : Nat → Int32) (H : Heap) (locs : List Loc) (ls : Array Slot), va_P D vwCl (kv_kw ci ad kc kh ks fo kl kp dy mo n pa aE qp qm ql qv qc qe mt mv sw hv tk tn sc) H → va_D A (kv_kw ci ad kc kh ks fo kl kp dy mo n pa aE qp qm ql qv qc qe mt mv sw hv tk tn sc) → va_S A s.heap H locs → lv_has ls 2 [(0, .ref (ad 8)), (1, .int x1)] → Rz = pf_X0_layOpen_2 mt mv  n_2 x1 tk → W p l en rmX0_layOpen s m args below meth c H locs 0 0 Q (F0 m 2 ls []) := by
    intro n_2
    induction n_2 with
    | zero =>
      intro x1 tk H locs ls  _ _ _ _ e
      exact absurd e hRz
    | succ n_2 ih_2 =>
      intro x1 tk H locs ls  hP hD hS hl e
      rw [pf_X0_layOpen_2, pf_X0_layOpen_2b] at e
      refine lv_iload_n hx hb dX0_layOpen_2 rfl (lv_at hl 1 rfl) ?_
      refine lv_bipush (v := 8) hx hb dX0_layOpen_3 (by decide) ?_
      refine lv_icmp_ge (tgt := 39) hx hb dX0_layOpen_5 (by decide) (fun c_5 => ?_) (fun c_5 => ?_)
      · have e := e.trans (if_pos c_5)
        rw [hQ]
        exact W.vret hx hb hr (fun t ht hW => ⟨⟨(tk), rfl, e, ⟨by rw [ht]; exact hP, by rw [hAe]; exact hD⟩⟩, hS.F ht⟩) hS.2.2 dX0_layOpen_39
      · have e := e.trans (if_neg c_5)
        refine lv_aload_n hx hb dX0_layOpen_8 rfl (lv_at hl 0 rfl) ?_
        refine va_get (D := D) (ci := 1) (v := .ref (ad 10)) (C := RX0) (T := TX0) (N := 7) hx hb hts hinRX0 hown hK hP 8 rfl rfl 1 (by decide) (hts (.fieldLink RX0 15 "LicenceKeeper$Layings" "machineCovers" "[I") (by decide +kernel)) (fun _ h9 => h9) rfl dX0_layOpen_9 ?_
        refine lv_iload_n hx hb dX0_layOpen_12 rfl (lv_at hl 1 rfl) ?_
        obtain ⟨hi_13, e⟩ := kv_G_e e hRz
        refine kv_iald hx hb hK hP 10 0 hi_13 dX0_layOpen_13 rfl rfl (fun y_13 ey_13 => ?_)
        have e := kv_T_e e ey_13
        refine lv_if_eq (tgt := 33) hx hb dX0_layOpen_14 (by decide) (fun c_14 => ?_) (fun c_14 => ?_)
        · have e := e.trans (if_pos c_14)
          refine lv_iinc (v := x1 + 1) (lv' := [(1, .int (x1 + 1)), (0, .ref (ad 8))]) hx hb dX0_layOpen_33 hl (k := 1) rfl rfl (by decide) rfl (fun ls hl => ?_)
          refine lv_goto (tgt := 2) hx hb dX0_layOpen_36 (by decide) ?_
          exact ih_2 (x1 + 1) tk _ _ _  hP hD hS (lv_sub hl [1, 0] rfl) e
        · have e := e.trans (if_neg c_14)
          refine lv_aload_n hx hb dX0_layOpen_17 rfl (lv_at hl 0 rfl) ?_
          refine lv_aload_n hx hb dX0_layOpen_18 rfl (lv_at hl 0 rfl) ?_
          refine va_get (D := D) (ci := 1) (v := .ref (ad 10)) (C := RX0) (T := TX0) (N := 7) hx hb hts hinRX0 hown hK hP 8 rfl rfl 1 (by decide) (hts (.fieldLink RX0 15 "LicenceKeeper$Layings" "machineCovers" "[I") (by decide +kernel)) (fun _ h9 => h9) rfl dX0_layOpen_19 ?_
          refine lv_iload_n hx hb dX0_layOpen_22 rfl (lv_at hl 1 rfl) ?_
          obtain ⟨hi_23, e⟩ := kv_G_e e hRz
          refine kv_iald hx hb hK hP 10 0 hi_23 dX0_layOpen_23 rfl rfl (fun y_23 ey_23 => ?_)
          have e := kv_T_e e ey_23
          refine lv_aload_n hx hb dX0_layOpen_24 rfl (lv_at hl 0 rfl) ?_
          refine va_get (D := D) (ci := 1) (v := .ref (ad 9)) (C := RX0) (T := TX0) (N := 7) hx hb hts hinRX0 hown hK hP 8 rfl rfl 0 (by decide) (hts (.fieldLink RX0 9 "LicenceKeeper$Layings" "machineTakes" "[I") (by decide +kernel)) (fun _ h9 => h9) rfl dX0_layOpen_25 ?_
          refine lv_iload_n hx hb dX0_layOpen_28 rfl (lv_at hl 1 rfl) ?_
          obtain ⟨hi_29, e⟩ := kv_G_e e hRz
          refine kv_iald hx hb hK hP 9 0 hi_29 dX0_layOpen_29 rfl rfl (fun y_29 ey_29 => ?_)
          have e := kv_T_e e ey_29
          refine kv_callv (va_runV (As := [.int y_23, .int y_29]) (rest := []) ⟨hx, hb, hml, hown, hts⟩ (c_X0_layOrNot l D ci ad kc kh ks fo kl kp dy mo n pa aE qp qm ql qv qc qe mt mv sw hv tk tn sc y_23 y_29 (kv_q1_n e hRz) H.size) (cwV 2 hts gX0_layOpen_X0_layOrNot rfl rfl rfl (by decide +kernel) ⟨Nat.le_of_ble_eq_true rfl, Nat.le_of_ble_eq_true rfl⟩) (kv_preV hK hP hD (r := (RX0, TX0, 7)) (q0 := 8) (k := 1) rfl rfl rfl) rfl rfl hl.1 rfl (lv_room (Nat.le_of_ble_eq_true rfl)) dX0_layOpen_30 ⟨Nat.le_of_ble_eq_true rfl, Nat.le_of_ble_eq_true rfl⟩) hD hS hA (fun u_30 H locs hw_30 hP hD hS => ?_)
          have e := kv_q1_e e hw_30
          have hP : va_P D vwCl (kv_kw ci ad kc kh ks fo kl kp dy mo n pa aE qp qm ql qv qc qe mt mv sw hv u_30 tn sc) H := hP
          have hD : va_D A (kv_kw ci ad kc kh ks fo kl kp dy mo n pa aE qp qm ql qv qc qe mt mv sw hv u_30 tn sc) := hD
          refine lv_iinc (v := x1 + 1) (lv' := [(1, .int (x1 + 1)), (0, .ref (ad 8))]) hx hb dX0_layOpen_33 hl (k := 1) rfl rfl (by decide) rfl (fun ls hl => ?_)
          refine lv_goto (tgt := 2) hx hb dX0_layOpen_36 (by decide) ?_
          exact ih_2 (x1 + 1) u_30 _ _ _  hP hD hS (lv_sub hl [1, 0] rfl) e
  refine lv_iconst (v := 0) hx hb dX0_layOpen_0 (by decide) ?_
  refine lv_istore_n (lv' := [(1, .int 0), (0, .ref (ad 8))]) hx hb dX0_layOpen_1 rfl hl (by decide) rfl (fun ls hl => ?_)
  exact hb_2 kv_F 0 tk _ _ _  hP hD hS (lv_sub hl [1, 0] rfl) e

def pf_X0_weigh_23b (p0 : Int32) (p1 : Int32) (p2 : Int32)  (k_23 : Int32 → Int32 → (Nat → Int32) → Int32 → Option ((Nat → Int32) × Int32)) (x4 : Int32) (x5 : Int32) (sw : Nat → Int32) (hv : Int32) : Option ((Nat → Int32) × Int32) :=
  if x4 ≤ x5 then some (sw, hv) else if 256 ≤ (x4 ||| x5) then some (sw, hv) else kv_G x5 256 (kv_T (sw x5.toNatClampNeg) (fun y_56 => kv_G (x4 ||| x5) 256 (kv_T (upd sw (x4 ||| x5).toNatClampNeg (y_56 + p2)) (fun g_59 => k_23 x4 (x5 + 1) g_59 hv))))
def pf_X0_weigh_23 (p0 : Int32) (p1 : Int32) (p2 : Int32)  : Nat → Int32 → Int32 → (Nat → Int32) → Int32 → Option ((Nat → Int32) × Int32)
  | 0, _, _, _, _ => none
  | nn + 1, x4, x5, sw, hv => pf_X0_weigh_23b p0 p1 p2  (pf_X0_weigh_23 p0 p1 p2  nn) x4 x5 sw hv
def pf_X0_weigh_20 (p0 : Int32) (p1 : Int32) (p2 : Int32)  (x4 : Int32) (sw : Nat → Int32) (hv : Int32) : Option ((Nat → Int32) × Int32) :=
  pf_X0_weigh_23 p0 p1 p2 kv_F x4 0 sw hv
def pf_X0_weigh (p0 : Int32) (p1 : Int32) (p2 : Int32) (sw : Nat → Int32) (hv : Int32) : Option ((Nat → Int32) × Int32) :=
  kv_T (1 <<< (p0 &&& 31)) (fun y_3 => if p1 = 0 then pf_X0_weigh_20 p0 p1 p2 y_3 sw hv else kv_T (hv ||| y_3) (fun y_17 => pf_X0_weigh_20 p0 p1 p2 y_3 sw y_17))
abbrev rmX0_weigh : Room := { frames := 0, cells := 0, slots := 0, locals := 0 }
set_option maxHeartbeats 4000000 in
set_option maxRecDepth 100000 in
theorem c_X0_weigh (l : Launch) (D : va_G) (ci ad : Nat → Nat) (kc : Nat → Int32) (kh : Nat → Int32) (ks : Nat → Int32) (fo : Nat → Nat → Int32) (kl : Nat → Int32) (kp : Nat → Int32) (dy : Int32) (mo : Int32) (n : Nat) (pa : Nat → Nat) (aE : Nat) (qp : Nat → Int32) (qm : Nat → Int32) (ql : Nat → Int32) (qv : Nat → Int32) (qc : Nat → Int32) (qe : Nat → Int32) (mt : Nat → Int32) (mv : Nat → Int32) (sw : Nat → Int32) (hv : Int32) (tk : Nat → Int32) (tn : Nat → Int32) (sc : Nat → Int32) (p0 : Int32) (p1 : Int32) (p2 : Int32)  (hRn : pf_X0_weigh p0 p1 p2 sw hv ≠ none) (sz : Nat) : Met l yX0_weigh wsX0_weigh rmX0_weigh (va_Pc [.ref (ad 8), .int p0, .int p1, .int p2] (kv_pre D ci (kv_kw ci ad kc kh ks fo kl kp dy mo n pa aE qp qm ql qv qc qe mt mv sw hv tk tn sc) sz)) (va_Qv (fun (u : (Nat → Int32) × Int32) => pf_X0_weigh p0 p1 p2 sw hv = some (u)) (fun u t => kv_post D (kv_kw ci ad kc kh ks fo kl kp dy mo n pa aE qp qm ql qv qc qe mt mv sw hv tk tn sc) sz (kv_kw ci ad kc kh ks fo kl kp dy mo n pa aE qp qm ql qv qc qe mt mv u.1 u.2 tk tn sc) t) (va_A (kv_kw ci ad kc kh ks fo kl kp dy mo n pa aE qp qm ql qv qc qe mt mv sw hv tk tn sc) sz)) 0 0 (va_A (kv_kw ci ad kc kh ks fo kl kp dy mo n pa aE qp qm ql qv qc qe mt mv sw hv tk tn sc) sz) := by
  refine Met.ofW (cc := cX0_weigh) (maxL := 6) (ret := none) (by decide) rfl ?_
  intro p en s m args below meth c s₁ B hml hv
  obtain ⟨hv0, hsz, hP, hK, hD0⟩ := hv
  have hx := B.exec
  have hb := B.bytes
  have hr := B.returns
  have hts := atoms_spec (ws := wsX0_weigh) B.pre
  have hown : s.vm.findClass RX0 = some m.cls := findClass_of_methodNamed B.named
  have hlocks := B.notSynchronized
  subst hsz
  have hD := hD0.self (sz := s.heap.size)
  generalize hAe : va_A (kv_kw ci ad kc kh ks fo kl kp dy mo n pa aE qp qm ql qv qc qe mt mv sw hv tk tn sc) s.heap.size = A at hD ⊢
  have hA : ∀ q : Nat, s.heap.size ≤ q → A q := fun q h => by rw [← hAe]; exact Or.inr h
  have hS : va_S A s.heap s.heap [] := va_S.rf
  have hP : va_P D vwCl (kv_kw ci ad kc kh ks fo kl kp dy mo n pa aE qp qm ql qv qc qe mt mv sw hv tk tn sc) s.heap := hP
  have hinRX0 : ∀ w ∈ u_ws RX0 TX0 7, w ∈ wsX0_weigh := by decide +kernel
  generalize hRd : pf_X0_weigh p0 p1 p2 sw hv = Rz at hRn
  have hRz := hRn
  refine kv_Q (fun Q hQ => ?_)
  refine W.eq (show entryFrame m args 6 = _ from by rw [hv0, lg_entry_eq]) ?_
  have hl := lv_entry ([.ref (ad 8), .int p0, .int p1, .int p2]) (n := 6) (Nat.le_of_ble_eq_true rfl)
  generalize (lg_sl ([.ref (ad 8), .int p0, .int p1, .int p2]) ++ List.replicate (6 - (lg_sl ([.ref (ad 8), .int p0, .int p1, .int p2])).length) Slot.unset).toArray = ls at hl ⊢
  have hl : lv_has ls 6 [(0, .ref (ad 8)), (1, .int p0), (2, .int p1), (3, .int p2)] := hl
  have e : Rz = pf_X0_weigh p0 p1 p2 sw hv := hRd.symm
  rw [pf_X0_weigh] at e
  have hb_23 : ∀ (n_23 : Nat), ∀ (x4 : Int32) (x5 : Int32) (sw : Nat → Int32) (hv : Int32) (H : Heap) (locs : List Loc) (ls : Array Slot), va_P D vwCl (kv_kw ci ad kc kh ks fo kl kp dy mo n pa aE qp qm ql qv qc qe mt mv sw hv tk tn sc) H → va_D A (kv_kw ci ad kc kh ks fo kl kp dy mo n pa aE qp qm ql qv qc qe mt mv sw hv tk tn sc) → va_S A s.heap H locs → lv_has ls 6 [(0, .ref (ad 8)), (3, .int p2), (4, .int x4), (5, .int x5)] → Rz = pf_X0_weigh_23 p0 p1 p2  n_23 x4 x5 sw hv → W p l en rmX0_weigh s m args below meth c H locs 0 0 Q (F0 m 23 ls []) := by
    intro n_23
    induction n_23 with
    | zero =>
      intro x4 x5 sw hv H locs ls  _ _ _ _ e
      exact absurd e hRz
    | succ n_23 ih_23 =>
      intro x4 x5 sw hv H locs ls  hP hD hS hl e
      rw [pf_X0_weigh_23, pf_X0_weigh_23b] at e
      refine lv_iload hx hb dX0_weigh_23 (lv_at hl 3 rfl) ?_
      refine lv_iload hx hb dX0_weigh_25 (lv_at hl 2 rfl) ?_
      refine lv_icmp_ge (tgt := 66) hx hb dX0_weigh_27 (by decide) (fun c_27 => ?_) (fun c_27 => ?_)
      · have e := e.trans (if_pos c_27)
        rw [hQ]
        exact W.vret hx hb hr (fun t ht hW => ⟨⟨(sw, hv), rfl, e, ⟨by rw [ht]; exact hP, by rw [hAe]; exact hD⟩⟩, hS.F ht⟩) hS.2.2 dX0_weigh_66
      · have e := e.trans (if_neg c_27)
        refine lv_iload hx hb dX0_weigh_30 (lv_at hl 2 rfl) ?_
        refine lv_iload hx hb dX0_weigh_32 (lv_at hl 3 rfl) ?_
        refine lv_ior hx hb dX0_weigh_34 ?_
        refine lv_sipush (v := 256) hx hb dX0_weigh_35 (by decide) ?_
        refine lv_icmp_ge (tgt := 66) hx hb dX0_weigh_38 (by decide) (fun c_38 => ?_) (fun c_38 => ?_)
        · have e := e.trans (if_pos c_38)
          rw [hQ]
          exact W.vret hx hb hr (fun t ht hW => ⟨⟨(sw, hv), rfl, e, ⟨by rw [ht]; exact hP, by rw [hAe]; exact hD⟩⟩, hS.F ht⟩) hS.2.2 dX0_weigh_66
        · have e := e.trans (if_neg c_38)
          refine lv_aload_n hx hb dX0_weigh_41 rfl (lv_at hl 0 rfl) ?_
          refine va_get (D := D) (ci := 1) (v := .ref (ad 11)) (C := RX0) (T := TX0) (N := 7) hx hb hts hinRX0 hown hK hP 8 rfl rfl 2 (by decide) (hts (.fieldLink RX0 18 "LicenceKeeper$Layings" "setWeights" "[I") (by decide +kernel)) (fun _ h9 => h9) rfl dX0_weigh_42 ?_
          refine lv_iload hx hb dX0_weigh_45 (lv_at hl 2 rfl) ?_
          refine lv_iload hx hb dX0_weigh_47 (lv_at hl 3 rfl) ?_
          refine lv_ior hx hb dX0_weigh_49 ?_
          refine lv_aload_n hx hb dX0_weigh_50 rfl (lv_at hl 0 rfl) ?_
          refine va_get (D := D) (ci := 1) (v := .ref (ad 11)) (C := RX0) (T := TX0) (N := 7) hx hb hts hinRX0 hown hK hP 8 rfl rfl 2 (by decide) (hts (.fieldLink RX0 18 "LicenceKeeper$Layings" "setWeights" "[I") (by decide +kernel)) (fun _ h9 => h9) rfl dX0_weigh_51 ?_
          refine lv_iload hx hb dX0_weigh_54 (lv_at hl 3 rfl) ?_
          obtain ⟨hi_56, e⟩ := kv_G_e e hRz
          refine kv_iald hx hb hK hP 11 0 hi_56 dX0_weigh_56 rfl rfl (fun y_56 ey_56 => ?_)
          have e := kv_T_e e ey_56
          refine lv_iload_n hx hb dX0_weigh_57 rfl (lv_at hl 1 rfl) ?_
          refine lv_iadd hx hb dX0_weigh_58 ?_
          obtain ⟨hi_59, e⟩ := kv_G_e e hRz
          refine kv_iast hx hb hK hP hD hS 11 0 (fun g_59 => (kv_kw ci ad kc kh ks fo kl kp dy mo n pa aE qp qm ql qv qc qe mt mv g_59 hv tk tn sc)) hi_59 dX0_weigh_59 rfl rfl (fun _ => rfl) (fun g_59 H locs eg_59 hP hD hS => ?_)
          have e := kv_T_e e eg_59
          refine lv_iinc (v := x5 + 1) (lv' := [(5, .int (x5 + 1)), (0, .ref (ad 8)), (3, .int p2), (4, .int x4)]) hx hb dX0_weigh_60 hl (k := 3) rfl rfl (by decide) rfl (fun ls hl => ?_)
          refine lv_goto (tgt := 23) hx hb dX0_weigh_63 (by decide) ?_
          exact ih_23 x4 (x5 + 1) g_59 hv _ _ _  hP hD hS (lv_sub hl [1, 2, 3, 0] rfl) e
  have hb_20 : ∀ (x4 : Int32) (sw : Nat → Int32) (hv : Int32) (H : Heap) (locs : List Loc) (ls : Array Slot), va_P D vwCl (kv_kw ci ad kc kh ks fo kl kp dy mo n pa aE qp qm ql qv qc qe mt mv sw hv tk tn sc) H → va_D A (kv_kw ci ad kc kh ks fo kl kp dy mo n pa aE qp qm ql qv qc qe mt mv sw hv tk tn sc) → va_S A s.heap H locs → lv_has ls 6 [(0, .ref (ad 8)), (3, .int p2), (4, .int x4)] → Rz = pf_X0_weigh_20 p0 p1 p2  x4 sw hv → W p l en rmX0_weigh s m args below meth c H locs 0 0 Q (F0 m 20 ls []) := by
    intro x4 sw hv H locs ls  hP hD hS hl e
    rw [pf_X0_weigh_20] at e
    refine lv_iconst (v := 0) hx hb dX0_weigh_20 (by decide) ?_
    refine lv_istore (lv' := [(5, .int 0), (0, .ref (ad 8)), (3, .int p2), (4, .int x4)]) hx hb dX0_weigh_21 hl (by decide) rfl (fun ls hl => ?_)
    exact hb_23 kv_F x4 0 sw hv _ _ _  hP hD hS (lv_sub hl [1, 2, 3, 0] rfl) e
  refine lv_iconst (v := 1) hx hb dX0_weigh_0 (by decide) ?_
  refine lv_iload_n hx hb dX0_weigh_1 rfl (lv_at hl 1 rfl) ?_
  refine lv_ishl hx hb dX0_weigh_2 ?_
  refine lv_topi (fun y_3 ey_3 => ?_)
  have e := kv_T_e e ey_3
  refine lv_istore (lv' := [(4, .int y_3), (0, .ref (ad 8)), (1, .int p0), (2, .int p1), (3, .int p2)]) hx hb dX0_weigh_3 hl (by decide) rfl (fun ls hl => ?_)
  refine lv_iload_n hx hb dX0_weigh_5 rfl (lv_at hl 3 rfl) ?_
  refine lv_if_eq (tgt := 20) hx hb dX0_weigh_6 (by decide) (fun c_6 => ?_) (fun c_6 => ?_)
  · have e := e.trans (if_pos c_6)
    exact hb_20 y_3 sw hv _ _ _  hP hD hS (lv_sub hl [1, 4, 0] rfl) e
  · have e := e.trans (if_neg c_6)
    refine lv_aload_n hx hb dX0_weigh_9 rfl (lv_at hl 1 rfl) ?_
    refine lv_dup hx hb dX0_weigh_10 rfl ?_
    refine va_get (D := D) (ci := 1) (v := .int hv) (C := RX0) (T := TX0) (N := 7) hx hb hts hinRX0 hown hK hP 8 rfl rfl 3 (by decide) (hts (.fieldLink RX0 21 "LicenceKeeper$Layings" "havers" "I") (by decide +kernel)) (fun _ h9 => h9) rfl dX0_weigh_11 ?_
    refine lv_iload hx hb dX0_weigh_14 (lv_at hl 0 rfl) ?_
    refine lv_ior hx hb dX0_weigh_16 ?_
    refine lv_topi (fun y_17 ey_17 => ?_)
    have e := kv_T_e e ey_17
    refine va_put (D := D) (ci := 1) (v := .int y_17) (ty := .int) (C := RX0) (T := TX0) (N := 7) hx hb hts hinRX0 tyX0 tyX0_ok nmX0 hown hK hP hD hS 8 rfl rfl 3 (by decide) (hts (.fieldLink RX0 21 "LicenceKeeper$Layings" "havers" "I") (by decide +kernel)) (fun _ h9 => h9) rfl (by decide +kernel) rfl rfl (Nat.le_of_ble_eq_true rfl) dX0_weigh_17 (fun H locs hP hD hS => ?_)
    have hP : va_P D vwCl (kv_kw ci ad kc kh ks fo kl kp dy mo n pa aE qp qm ql qv qc qe mt mv sw y_17 tk tn sc) H := hP
    have hD : va_D A (kv_kw ci ad kc kh ks fo kl kp dy mo n pa aE qp qm ql qv qc qe mt mv sw y_17 tk tn sc) := hD
    exact hb_20 y_3 sw y_17 _ _ _  hP hD hS (lv_sub hl [1, 4, 0] rfl) e

def pf_X0_clearAll  (hv : Int32) (tk : Nat → Int32) : Option (Int32 × (Nat → Int32)) :=
  kv_T (kv_fill tk 256 1000000) (fun g_11 => kv_G (0 : Int32) 256 (kv_T (upd g_11 (0 : Int32).toNatClampNeg 0) (fun g_20 => some (0, g_20))))
abbrev rmX0_clearAll : Room := { frames := 1, cells := 0, slots := 0, locals := 23 }
set_option maxHeartbeats 4000000 in
set_option maxRecDepth 100000 in
theorem c_X0_clearAll (l : Launch) (D : va_G) (ci ad : Nat → Nat) (kc : Nat → Int32) (kh : Nat → Int32) (ks : Nat → Int32) (fo : Nat → Nat → Int32) (kl : Nat → Int32) (kp : Nat → Int32) (dy : Int32) (mo : Int32) (n : Nat) (pa : Nat → Nat) (aE : Nat) (qp : Nat → Int32) (qm : Nat → Int32) (ql : Nat → Int32) (qv : Nat → Int32) (qc : Nat → Int32) (qe : Nat → Int32) (mt : Nat → Int32) (mv : Nat → Int32) (sw : Nat → Int32) (hv : Int32) (tk : Nat → Int32) (tn : Nat → Int32) (sc : Nat → Int32)   (hRn : pf_X0_clearAll hv tk ≠ none) (sz : Nat) : Met l yX0_clearAll wsX0_clearAll rmX0_clearAll (va_Pc [.ref (ad 8)] (kv_pre D ci (kv_kw ci ad kc kh ks fo kl kp dy mo n pa aE qp qm ql qv qc qe mt mv sw hv tk tn sc) sz)) (va_Qv (fun (u : Int32 × (Nat → Int32)) => pf_X0_clearAll hv tk = some (u)) (fun u t => kv_post D (kv_kw ci ad kc kh ks fo kl kp dy mo n pa aE qp qm ql qv qc qe mt mv sw hv tk tn sc) sz (kv_kw ci ad kc kh ks fo kl kp dy mo n pa aE qp qm ql qv qc qe mt mv sw u.1 u.2 tn sc) t) (va_A (kv_kw ci ad kc kh ks fo kl kp dy mo n pa aE qp qm ql qv qc qe mt mv sw hv tk tn sc) sz)) 0 0 (va_A (kv_kw ci ad kc kh ks fo kl kp dy mo n pa aE qp qm ql qv qc qe mt mv sw hv tk tn sc) sz) := by
  refine Met.ofW (cc := cX0_clearAll) (maxL := 1) (ret := none) (by decide) rfl ?_
  intro p en s m args below meth c s₁ B hml hv
  obtain ⟨hv0, hsz, hP, hK, hD0⟩ := hv
  have hx := B.exec
  have hb := B.bytes
  have hr := B.returns
  have hts := atoms_spec (ws := wsX0_clearAll) B.pre
  have hown : s.vm.findClass RX0 = some m.cls := findClass_of_methodNamed B.named
  have hlocks := B.notSynchronized
  subst hsz
  have hD := hD0.self (sz := s.heap.size)
  generalize hAe : va_A (kv_kw ci ad kc kh ks fo kl kp dy mo n pa aE qp qm ql qv qc qe mt mv sw hv tk tn sc) s.heap.size = A at hD ⊢
  have hA : ∀ q : Nat, s.heap.size ≤ q → A q := fun q h => by rw [← hAe]; exact Or.inr h
  have hS : va_S A s.heap s.heap [] := va_S.rf
  have hP : va_P D vwCl (kv_kw ci ad kc kh ks fo kl kp dy mo n pa aE qp qm ql qv qc qe mt mv sw hv tk tn sc) s.heap := hP
  have hinRX0 : ∀ w ∈ u_ws RX0 TX0 7, w ∈ wsX0_clearAll := by decide +kernel
  generalize hRd : pf_X0_clearAll hv tk = Rz at hRn
  have hRz := hRn
  refine kv_Q (fun Q hQ => ?_)
  refine W.eq (show entryFrame m args 1 = _ from by rw [hv0, lg_entry_eq]) ?_
  have hl := lv_entry ([.ref (ad 8)]) (n := 1) (Nat.le_of_ble_eq_true rfl)
  generalize (lg_sl ([.ref (ad 8)]) ++ List.replicate (1 - (lg_sl ([.ref (ad 8)])).length) Slot.unset).toArray = ls at hl ⊢
  have hl : lv_has ls 1 [(0, .ref (ad 8))] := hl
  have e : Rz = pf_X0_clearAll hv tk := hRd.symm
  rw [pf_X0_clearAll] at e
  refine lv_aload_n hx hb dX0_clearAll_0 rfl (lv_at hl 0 rfl) ?_
  refine lv_iconst (v := 0) hx hb dX0_clearAll_1 (by decide) ?_
  refine va_put (D := D) (ci := 1) (v := .int 0) (ty := .int) (C := RX0) (T := TX0) (N := 7) hx hb hts hinRX0 tyX0 tyX0_ok nmX0 hown hK hP hD hS 8 rfl rfl 3 (by decide) (hts (.fieldLink RX0 21 "LicenceKeeper$Layings" "havers" "I") (by decide +kernel)) (fun _ h9 => h9) rfl (by decide +kernel) rfl rfl (Nat.le_of_ble_eq_true rfl) dX0_clearAll_2 (fun H locs hP hD hS => ?_)
  have hP : va_P D vwCl (kv_kw ci ad kc kh ks fo kl kp dy mo n pa aE qp qm ql qv qc qe mt mv sw 0 tk tn sc) H := hP
  have hD : va_D A (kv_kw ci ad kc kh ks fo kl kp dy mo n pa aE qp qm ql qv qc qe mt mv sw 0 tk tn sc) := hD
  refine lv_aload_n hx hb dX0_clearAll_5 rfl (lv_at hl 0 rfl) ?_
  refine va_get (D := D) (ci := 1) (v := .ref (ad 12)) (C := RX0) (T := TX0) (N := 7) hx hb hts hinRX0 hown hK hP 8 rfl rfl 4 (by decide) (hts (.fieldLink RX0 25 "LicenceKeeper$Layings" "taken" "[I") (by decide +kernel)) (fun _ h9 => h9) rfl dX0_clearAll_6 ?_
  refine lv_ldc (v := 1000000) hx hb hown (hts (.constant RX0 34 1000000) (by decide +kernel)) dX0_clearAll_9 ?_
  refine kv_callv (S := Nat → Int32) (wf := fun g9 => (kv_kw ci ad kc kh ks fo kl kp dy mo n pa aE qp qm ql qv qc qe mt mv sw 0 g9 tn sc)) (va_runS (As := [.ref (ad 12), .int 1000000]) (rest := []) ⟨hx, hb, hml, hown, hts⟩ (c_K_fill l D ci (kv_kw ci ad kc kh ks fo kl kp dy mo n pa aE qp qm ql qv qc qe mt mv sw 0 tk tn sc) 12 (ad 12) 256 tk 1000000 (fun g9 => (kv_kw ci ad kc kh ks fo kl kp dy mo n pa aE qp qm ql qv qc qe mt mv sw 0 g9 tn sc)) (by decide) rfl (fun _ => rfl) H.size) (va_cwS 2 hts gX0_clearAll_J7_fill_53178 rfl rfl rfl (by decide +kernel) ⟨Nat.le_of_ble_eq_true rfl, Nat.le_of_ble_eq_true rfl⟩) (kv_preS hK hP hD) rfl rfl hl.1 rfl (lv_room (Nat.le_of_ble_eq_true rfl)) dX0_clearAll_11 ⟨Nat.le_of_ble_eq_true rfl, Nat.le_of_ble_eq_true rfl⟩) hD hS hA (fun g_11 H locs hw_11 hP hD hS => ?_)
  have e := kv_T_e e hw_11
  have hP : va_P D vwCl (kv_kw ci ad kc kh ks fo kl kp dy mo n pa aE qp qm ql qv qc qe mt mv sw 0 g_11 tn sc) H := hP
  have hD : va_D A (kv_kw ci ad kc kh ks fo kl kp dy mo n pa aE qp qm ql qv qc qe mt mv sw 0 g_11 tn sc) := hD
  refine lv_aload_n hx hb dX0_clearAll_14 rfl (lv_at hl 0 rfl) ?_
  refine va_get (D := D) (ci := 1) (v := .ref (ad 12)) (C := RX0) (T := TX0) (N := 7) hx hb hts hinRX0 hown hK hP 8 rfl rfl 4 (by decide) (hts (.fieldLink RX0 25 "LicenceKeeper$Layings" "taken" "[I") (by decide +kernel)) (fun _ h9 => h9) rfl dX0_clearAll_15 ?_
  refine lv_iconst (v := 0) hx hb dX0_clearAll_18 (by decide) ?_
  refine lv_iconst (v := 0) hx hb dX0_clearAll_19 (by decide) ?_
  obtain ⟨hi_20, e⟩ := kv_G_e e hRz
  refine kv_iast hx hb hK hP hD hS 12 0 (fun g_20 => (kv_kw ci ad kc kh ks fo kl kp dy mo n pa aE qp qm ql qv qc qe mt mv sw 0 g_20 tn sc)) hi_20 dX0_clearAll_20 rfl rfl (fun _ => rfl) (fun g_20 H locs eg_20 hP hD hS => ?_)
  have e := kv_T_e e eg_20
  rw [hQ]
  exact W.vret hx hb hr (fun t ht hW => ⟨⟨(0, g_20), rfl, e, ⟨by rw [ht]; exact hP, by rw [hAe]; exact hD⟩⟩, hS.F ht⟩) hS.2.2 dX0_clearAll_21
