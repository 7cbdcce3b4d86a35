def pf_X2n_requireMachine (p0 : Int32)  : Option (Unit) :=
  if p0 < 0 then none else if p0 < 8 then some () else none
abbrev rmX2n_requireMachine : Room := { frames := 0, cells := 0, slots := 0, locals := 0 }
set_option maxHeartbeats 4000000 in
set_option maxRecDepth 100000 in
theorem c_X2n_requireMachine (l : Launch) (D : va_G) (ci ad : Nat → Nat) (kc : Nat → Int32) (kh : Nat → Int32) (ks : Nat → Int32) (fo : Nat → Nat → Int32) (kl : Nat → Int32) (kp : Nat → Int32) (dy : Int32) (mo : Int32) (n : Nat) (pa : Nat → Nat) (aE : Nat) (qp : Nat → Int32) (qm : Nat → Int32) (ql : Nat → Int32) (qv : Nat → Int32) (qc : Nat → Int32) (qe : Nat → Int32) (mt : Nat → Int32) (mv : Nat → Int32) (sw : Nat → Int32) (hv : Int32) (tk : Nat → Int32) (tn : Nat → Int32) (sc : Nat → Int32) (p0 : Int32)  (hRn : pf_X2n_requireMachine p0 ≠ none) (sz : Nat) : Met l yX2_requireMachine wsX2_requireMachine rmX2n_requireMachine (va_Pc [.int p0] (kv_pre D ci (kv_kw ci ad kc kh ks fo kl kp dy mo n pa aE qp qm ql qv qc qe mt mv sw hv tk tn sc) sz)) (va_Qv (fun (u : Unit) => pf_X2n_requireMachine p0 = some (u)) (fun u t => kv_post D (kv_kw ci ad kc kh ks fo kl kp dy mo n pa aE qp qm ql qv qc qe mt mv sw hv tk tn sc) sz (kv_kw ci ad kc kh ks fo kl kp dy mo n pa aE qp qm ql qv qc qe mt mv sw hv tk tn sc) t) (va_A (kv_kw ci ad kc kh ks fo kl kp dy mo n pa aE qp qm ql qv qc qe mt mv sw hv tk tn sc) sz)) 0 0 (va_A (kv_kw ci ad kc kh ks fo kl kp dy mo n pa aE qp qm ql qv qc qe mt mv sw hv tk tn sc) sz) := by
  refine Met.ofW (cc := cX2_requireMachine) (maxL := 1) (ret := none) (by decide) rfl ?_
  intro p en s m args below meth c s₁ B hml hv
  obtain ⟨hv0, hsz, hP, hK, hD0⟩ := hv
  have hx := B.exec
  have hb := B.bytes
  have hr := B.returns
  have hts := atoms_spec (ws := wsX2_requireMachine) B.pre
  have hown : s.vm.findClass RX2 = some m.cls := findClass_of_methodNamed B.named
  have hlocks := B.notSynchronized
  subst hsz
  have hD := hD0.self (sz := s.heap.size)
  generalize hAe : va_A (kv_kw ci ad kc kh ks fo kl kp dy mo n pa aE qp qm ql qv qc qe mt mv sw hv tk tn sc) s.heap.size = A at hD ⊢
  have hA : ∀ q : Nat, s.heap.size ≤ q → A q := fun q h => by rw [← hAe]; exact Or.inr h
  have hS : va_S A s.heap s.heap [] := va_S.rf
  have hP : va_P D vwCl (kv_kw ci ad kc kh ks fo kl kp dy mo n pa aE qp qm ql qv qc qe mt mv sw hv tk tn sc) s.heap := hP
  generalize hRd : pf_X2n_requireMachine p0 = Rz at hRn
  have hRz := hRn
  refine kv_Q (fun Q hQ => ?_)
  refine W.eq (show entryFrame m args 1 = _ from by rw [hv0, lg_entry_eq]) ?_
  have hl := lv_entry ([.int p0]) (n := 1) (Nat.le_of_ble_eq_true rfl)
  generalize (lg_sl ([.int p0]) ++ List.replicate (1 - (lg_sl ([.int p0])).length) Slot.unset).toArray = ls at hl ⊢
  have hl : lv_has ls 1 [(0, .int p0)] := hl
  have e : Rz = pf_X2n_requireMachine p0 := hRd.symm
  rw [pf_X2n_requireMachine] at e
  refine lv_iload_n hx hb dX2_requireMachine_0 rfl (lv_at hl 0 rfl) ?_
  refine lv_if_lt (tgt := 10) hx hb dX2_requireMachine_1 (by decide) (fun c_1 => ?_) (fun c_1 => ?_)
  · have e := e.trans (if_pos c_1)
    exact absurd e hRz
  · have e := e.trans (if_neg c_1)
    refine lv_iload_n hx hb dX2_requireMachine_4 rfl (lv_at hl 0 rfl) ?_
    refine lv_bipush (v := 8) hx hb dX2_requireMachine_5 (by decide) ?_
    refine lv_icmp_lt (tgt := 20) hx hb dX2_requireMachine_7 (by decide) (fun c_7 => ?_) (fun c_7 => ?_)
    · have e := e.trans (if_pos c_7)
      rw [hQ]
      exact W.vret hx hb hr (fun t ht hW => ⟨⟨(), rfl, e, ⟨by rw [ht]; exact hP, by rw [hAe]; exact hD⟩⟩, hS.F ht⟩) hS.2.2 dX2_requireMachine_20
    · have e := e.trans (if_neg c_7)
      exact absurd e hRz

def pf_X2n_requireProduct (p0 : Int32)  : Option (Unit) :=
  if p0 < 0 then none else if p0 < 4 then some () else none
abbrev rmX2n_requireProduct : Room := { frames := 0, cells := 0, slots := 0, locals := 0 }
set_option maxHeartbeats 4000000 in
set_option maxRecDepth 100000 in
theorem c_X2n_requireProduct (l : Launch) (D : va_G) (ci ad : Nat → Nat) (kc : Nat → Int32) (kh : Nat → Int32) (ks : Nat → Int32) (fo : Nat → Nat → Int32) (kl : Nat → Int32) (kp : Nat → Int32) (dy : Int32) (mo : Int32) (n : Nat) (pa : Nat → Nat) (aE : Nat) (qp : Nat → Int32) (qm : Nat → Int32) (ql : Nat → Int32) (qv : Nat → Int32) (qc : Nat → Int32) (qe : Nat → Int32) (mt : Nat → Int32) (mv : Nat → Int32) (sw : Nat → Int32) (hv : Int32) (tk : Nat → Int32) (tn : Nat → Int32) (sc : Nat → Int32) (p0 : Int32)  (hRn : pf_X2n_requireProduct p0 ≠ none) (sz : Nat) : Met l yX2_requireProduct wsX2_requireProduct rmX2n_requireProduct (va_Pc [.int p0] (kv_pre D ci (kv_kw ci ad kc kh ks fo kl kp dy mo n pa aE qp qm ql qv qc qe mt mv sw hv tk tn sc) sz)) (va_Qv (fun (u : Unit) => pf_X2n_requireProduct p0 = some (u)) (fun u t => kv_post D (kv_kw ci ad kc kh ks fo kl kp dy mo n pa aE qp qm ql qv qc qe mt mv sw hv tk tn sc) sz (kv_kw ci ad kc kh ks fo kl kp dy mo n pa aE qp qm ql qv qc qe mt mv sw hv tk tn sc) t) (va_A (kv_kw ci ad kc kh ks fo kl kp dy mo n pa aE qp qm ql qv qc qe mt mv sw hv tk tn sc) sz)) 0 0 (va_A (kv_kw ci ad kc kh ks fo kl kp dy mo n pa aE qp qm ql qv qc qe mt mv sw hv tk tn sc) sz) := by
  refine Met.ofW (cc := cX2_requireProduct) (maxL := 1) (ret := none) (by decide) rfl ?_
  intro p en s m args below meth c s₁ B hml hv
  obtain ⟨hv0, hsz, hP, hK, hD0⟩ := hv
  have hx := B.exec
  have hb := B.bytes
  have hr := B.returns
  have hts := atoms_spec (ws := wsX2_requireProduct) B.pre
  have hown : s.vm.findClass RX2 = some m.cls := findClass_of_methodNamed B.named
  have hlocks := B.notSynchronized
  subst hsz
  have hD := hD0.self (sz := s.heap.size)
  generalize hAe : va_A (kv_kw ci ad kc kh ks fo kl kp dy mo n pa aE qp qm ql qv qc qe mt mv sw hv tk tn sc) s.heap.size = A at hD ⊢
  have hA : ∀ q : Nat, s.heap.size ≤ q → A q := fun q h => by rw [← hAe]; exact Or.inr h
  have hS : va_S A s.heap s.heap [] := va_S.rf
  have hP : va_P D vwCl (kv_kw ci ad kc kh ks fo kl kp dy mo n pa aE qp qm ql qv qc qe mt mv sw hv tk tn sc) s.heap := hP
  generalize hRd : pf_X2n_requireProduct p0 = Rz at hRn
  have hRz := hRn
  refine kv_Q (fun Q hQ => ?_)
  refine W.eq (show entryFrame m args 1 = _ from by rw [hv0, lg_entry_eq]) ?_
  have hl := lv_entry ([.int p0]) (n := 1) (Nat.le_of_ble_eq_true rfl)
  generalize (lg_sl ([.int p0]) ++ List.replicate (1 - (lg_sl ([.int p0])).length) Slot.unset).toArray = ls at hl ⊢
  have hl : lv_has ls 1 [(0, .int p0)] := hl
  have e : Rz = pf_X2n_requireProduct p0 := hRd.symm
  rw [pf_X2n_requireProduct] at e
  refine lv_iload_n hx hb dX2_requireProduct_0 rfl (lv_at hl 0 rfl) ?_
  refine lv_if_lt (tgt := 9) hx hb dX2_requireProduct_1 (by decide) (fun c_1 => ?_) (fun c_1 => ?_)
  · have e := e.trans (if_pos c_1)
    exact absurd e hRz
  · have e := e.trans (if_neg c_1)
    refine lv_iload_n hx hb dX2_requireProduct_4 rfl (lv_at hl 0 rfl) ?_
    refine lv_iconst (v := 4) hx hb dX2_requireProduct_5 (by decide) ?_
    refine lv_icmp_lt (tgt := 19) hx hb dX2_requireProduct_6 (by decide) (fun c_6 => ?_) (fun c_6 => ?_)
    · have e := e.trans (if_pos c_6)
      rw [hQ]
      exact W.vret hx hb hr (fun t ht hW => ⟨⟨(), rfl, e, ⟨by rw [ht]; exact hP, by rw [hAe]; exact hD⟩⟩, hS.F ht⟩) hS.2.2 dX2_requireProduct_19
    · have e := e.trans (if_neg c_6)
      exact absurd e hRz

def pf_X2n_requireRange (p0 : Int32) (p1 : Int32) (p2 : Int32)  : Option (Unit) :=
  if p0 < p1 then none else if p0 ≤ p2 then some () else none
abbrev rmX2n_requireRange : Room := { frames := 0, cells := 0, slots := 0, locals := 0 }
set_option maxHeartbeats 4000000 in
set_option maxRecDepth 100000 in
theorem c_X2n_requireRange (l : Launch) (D : va_G) (ci ad : Nat → Nat) (kc : Nat → Int32) (kh : Nat → Int32) (ks : Nat → Int32) (fo : Nat → Nat → Int32) (kl : Nat → Int32) (kp : Nat → Int32) (dy : Int32) (mo : Int32) (n : Nat) (pa : Nat → Nat) (aE : Nat) (qp : Nat → Int32) (qm : Nat → Int32) (ql : Nat → Int32) (qv : Nat → Int32) (qc : Nat → Int32) (qe : Nat → Int32) (mt : Nat → Int32) (mv : Nat → Int32) (sw : Nat → Int32) (hv : Int32) (tk : Nat → Int32) (tn : Nat → Int32) (sc : Nat → Int32) (p0 : Int32) (p1 : Int32) (p2 : Int32)  (hRn : pf_X2n_requireRange p0 p1 p2 ≠ none) (sz : Nat) : Met l yX2_requireRange wsX2_requireRange rmX2n_requireRange (va_Pc [.int p0, .int p1, .int p2] (kv_pre D ci (kv_kw ci ad kc kh ks fo kl kp dy mo n pa aE qp qm ql qv qc qe mt mv sw hv tk tn sc) sz)) (va_Qv (fun (u : Unit) => pf_X2n_requireRange p0 p1 p2 = some (u)) (fun u t => kv_post D (kv_kw ci ad kc kh ks fo kl kp dy mo n pa aE qp qm ql qv qc qe mt mv sw hv tk tn sc) sz (kv_kw ci ad kc kh ks fo kl kp dy mo n pa aE qp qm ql qv qc qe mt mv sw hv tk tn sc) t) (va_A (kv_kw ci ad kc kh ks fo kl kp dy mo n pa aE qp qm ql qv qc qe mt mv sw hv tk tn sc) sz)) 0 0 (va_A (kv_kw ci ad kc kh ks fo kl kp dy mo n pa aE qp qm ql qv qc qe mt mv sw hv tk tn sc) sz) := by
  refine Met.ofW (cc := cX2_requireRange) (maxL := 3) (ret := none) (by decide) rfl ?_
  intro p en s m args below meth c s₁ B hml hv
  obtain ⟨hv0, hsz, hP, hK, hD0⟩ := hv
  have hx := B.exec
  have hb := B.bytes
  have hr := B.returns
  have hts := atoms_spec (ws := wsX2_requireRange) B.pre
  have hown : s.vm.findClass RX2 = some m.cls := findClass_of_methodNamed B.named
  have hlocks := B.notSynchronized
  subst hsz
  have hD := hD0.self (sz := s.heap.size)
  generalize hAe : va_A (kv_kw ci ad kc kh ks fo kl kp dy mo n pa aE qp qm ql qv qc qe mt mv sw hv tk tn sc) s.heap.size = A at hD ⊢
  have hA : ∀ q : Nat, s.heap.size ≤ q → A q := fun q h => by rw [← hAe]; exact Or.inr h
  have hS : va_S A s.heap s.heap [] := va_S.rf
  have hP : va_P D vwCl (kv_kw ci ad kc kh ks fo kl kp dy mo n pa aE qp qm ql qv qc qe mt mv sw hv tk tn sc) s.heap := hP
  generalize hRd : pf_X2n_requireRange p0 p1 p2 = Rz at hRn
  have hRz := hRn
  refine kv_Q (fun Q hQ => ?_)
  refine W.eq (show entryFrame m args 3 = _ from by rw [hv0, lg_entry_eq]) ?_
  have hl := lv_entry ([.int p0, .int p1, .int p2]) (n := 3) (Nat.le_of_ble_eq_true rfl)
  generalize (lg_sl ([.int p0, .int p1, .int p2]) ++ List.replicate (3 - (lg_sl ([.int p0, .int p1, .int p2])).length) Slot.unset).toArray = ls at hl ⊢
  have hl : lv_has ls 3 [(0, .int p0), (1, .int p1), (2, .int p2)] := hl
  have e : Rz = pf_X2n_requireRange p0 p1 p2 := hRd.symm
  rw [pf_X2n_requireRange] at e
  refine lv_iload_n hx hb dX2_requireRange_0 rfl (lv_at hl 0 rfl) ?_
  refine lv_iload_n hx hb dX2_requireRange_1 rfl (lv_at hl 1 rfl) ?_
  refine lv_icmp_lt (tgt := 10) hx hb dX2_requireRange_2 (by decide) (fun c_2 => ?_) (fun c_2 => ?_)
  · have e := e.trans (if_pos c_2)
    exact absurd e hRz
  · have e := e.trans (if_neg c_2)
    refine lv_iload_n hx hb dX2_requireRange_5 rfl (lv_at hl 0 rfl) ?_
    refine lv_iload_n hx hb dX2_requireRange_6 rfl (lv_at hl 2 rfl) ?_
    refine lv_icmp_le (tgt := 20) hx hb dX2_requireRange_7 (by decide) (fun c_7 => ?_) (fun c_7 => ?_)
    · have e := e.trans (if_pos c_7)
      rw [hQ]
      exact W.vret hx hb hr (fun t ht hW => ⟨⟨(), rfl, e, ⟨by rw [ht]; exact hP, by rw [hAe]; exact hD⟩⟩, hS.F ht⟩) hS.2.2 dX2_requireRange_20
    · have e := e.trans (if_neg c_7)
      exact absurd e hRz

def pf_X2n_rightAt (n : Nat) (p0 : Int32)  : Option (Nat) :=
  if p0 < 0 then none else if p0 < (nI n) then kv_L p0 n (kv_T p0.toNatClampNeg (fun k_30 => some (k_30))) else none
abbrev rmX2n_rightAt : Room := { frames := 3, cells := 0, slots := 0, locals := 64 }
set_option maxHeartbeats 4000000 in
set_option maxRecDepth 100000 in
theorem c_X2n_rightAt (l : Launch) (D : va_G) (ci ad : Nat → Nat) (kc : Nat → Int32) (kh : Nat → Int32) (ks : Nat → Int32) (fo : Nat → Nat → Int32) (kl : Nat → Int32) (kp : Nat → Int32) (dy : Int32) (mo : Int32) (n : Nat) (pa : Nat → Nat) (aE : Nat) (qp : Nat → Int32) (qm : Nat → Int32) (ql : Nat → Int32) (qv : Nat → Int32) (qc : Nat → Int32) (qe : Nat → Int32) (mt : Nat → Int32) (mv : Nat → Int32) (sw : Nat → Int32) (hv : Int32) (tk : Nat → Int32) (tn : Nat → Int32) (sc : Nat → Int32) (p0 : Int32)  (hRn : pf_X2n_rightAt n p0 ≠ none) (sz : Nat) : Met l yX2_rightAt wsX2_rightAt rmX2n_rightAt (va_Pc [.ref (ad 0), .int p0] (kv_pre D ci (kv_kw ci ad kc kh ks fo kl kp dy mo n pa aE qp qm ql qv qc qe mt mv sw hv tk tn sc) sz)) (va_Qq (fun (r : Option Nat) (u : Nat) => r = some (pa u) ∧ u < n ∧ pf_X2n_rightAt n p0 = some (u)) (fun u t => kv_post D (kv_kw ci ad kc kh ks fo kl kp dy mo n pa aE qp qm ql qv qc qe mt mv sw hv tk tn sc) sz (kv_kw ci ad kc kh ks fo kl kp dy mo n pa aE qp qm ql qv qc qe mt mv sw hv tk tn sc) t) (va_A (kv_kw ci ad kc kh ks fo kl kp dy mo n pa aE qp qm ql qv qc qe mt mv sw hv tk tn sc) sz)) 0 0 (va_A (kv_kw ci ad kc kh ks fo kl kp dy mo n pa aE qp qm ql qv qc qe mt mv sw hv tk tn sc) sz) := by
  refine Met.ofW (cc := cX2_rightAt) (maxL := 2) (ret := (some (.object "LicenceKeeper$Right"))) (by decide) rfl ?_
  intro p en s m args below meth c s₁ B hml hv
  obtain ⟨hv0, hsz, hP, hK, hD0⟩ := hv
  have hx := B.exec
  have hb := B.bytes
  have hr := B.returns
  have hts := atoms_spec (ws := wsX2_rightAt) B.pre
  have hown : s.vm.findClass RX2 = some m.cls := findClass_of_methodNamed B.named
  have hlocks := B.notSynchronized
  subst hsz
  have hD := hD0.self (sz := s.heap.size)
  generalize hAe : va_A (kv_kw ci ad kc kh ks fo kl kp dy mo n pa aE qp qm ql qv qc qe mt mv sw hv tk tn sc) s.heap.size = A at hD ⊢
  have hA : ∀ q : Nat, s.heap.size ≤ q → A q := fun q h => by rw [← hAe]; exact Or.inr h
  have hS : va_S A s.heap s.heap [] := va_S.rf
  have hP : va_P D vwCl (kv_kw ci ad kc kh ks fo kl kp dy mo n pa aE qp qm ql qv qc qe mt mv sw hv tk tn sc) s.heap := hP
  have hinRX2 : ∀ w ∈ u_ws RX2 TX2 9, w ∈ wsX2_rightAt := by decide +kernel
  generalize hRd : pf_X2n_rightAt n p0 = Rz at hRn
  have hRz := hRn
  refine kv_Q (fun Q hQ => ?_)
  refine W.eq (show entryFrame m args 2 = _ from by rw [hv0, lg_entry_eq]) ?_
  have hl := lv_entry ([.ref (ad 0), .int p0]) (n := 2) (Nat.le_of_ble_eq_true rfl)
  generalize (lg_sl ([.ref (ad 0), .int p0]) ++ List.replicate (2 - (lg_sl ([.ref (ad 0), .int p0])).length) Slot.unset).toArray = ls at hl ⊢
  have hl : lv_has ls 2 [(0, .ref (ad 0)), (1, .int p0)] := hl
  have e : Rz = pf_X2n_rightAt n p0 := hRd.symm
  rw [pf_X2n_rightAt] at e
  refine lv_iload_n hx hb dX2_rightAt_0 rfl (lv_at hl 1 rfl) ?_
  refine lv_if_lt (tgt := 15) hx hb dX2_rightAt_1 (by decide) (fun c_1 => ?_) (fun c_1 => ?_)
  · have e := e.trans (if_pos c_1)
    exact absurd e hRz
  · have e := e.trans (if_neg c_1)
    refine lv_iload_n hx hb dX2_rightAt_4 rfl (lv_at hl 1 rfl) ?_
    refine lv_aload_n hx hb dX2_rightAt_5 rfl (lv_at hl 0 rfl) ?_
    refine va_get (D := D) (ci := 3) (v := .ref (ad 7)) (C := RX2) (T := TX2) (N := 9) hx hb hts hinRX2 hown hK hP 0 rfl rfl 6 (by decide) (hts (.fieldLink RX2 33 "LicenceKeeper" "held" "Ljava/util/ArrayList;") (by decide +kernel)) (fun _ h9 => h9) rfl dX2_rightAt_6 ?_
    refine kv_calli (va_runV (As := []) (rest := [.int p0]) ⟨hx, hb, hml, hown, hts⟩ (c_K_size l D ci ad kc kh ks fo kl kp dy mo n pa aE qp qm ql qv qc qe mt mv sw hv tk tn sc s.heap.size) (cwV 0 hts gX2_rightAt_Jx4a65c_size_8abf5 rfl rfl rfl (by decide +kernel) ⟨Nat.le_of_ble_eq_true rfl, Nat.le_of_ble_eq_true rfl⟩) (kv_preV hK hP hD (r := (RJx4a65c, TJx4a65c, 3)) (q0 := 7) (k := 0) rfl rfl rfl) rfl rfl hl.1 rfl (lv_room (Nat.le_of_ble_eq_true rfl)) dX2_rightAt_9 ⟨Nat.le_of_ble_eq_true rfl, Nat.le_of_ble_eq_true rfl⟩) hD hS hA (fun r_9 u_9 H locs hw_9 hP hD hS => ?_)
    subst hw_9
    refine lv_icmp_lt (tgt := 25) hx hb dX2_rightAt_12 (by decide) (fun c_12 => ?_) (fun c_12 => ?_)
    · have e := e.trans (if_pos c_12)
      refine lv_aload_n hx hb dX2_rightAt_25 rfl (lv_at hl 0 rfl) ?_
      refine va_get (D := D) (ci := 3) (v := .ref (ad 7)) (C := RX2) (T := TX2) (N := 9) hx hb hts hinRX2 hown hK hP 0 rfl rfl 6 (by decide) (hts (.fieldLink RX2 33 "LicenceKeeper" "held" "Ljava/util/ArrayList;") (by decide +kernel)) (fun _ h9 => h9) rfl dX2_rightAt_26 ?_
      refine lv_iload_n hx hb dX2_rightAt_29 rfl (lv_at hl 1 rfl) ?_
      obtain ⟨hi_30, hn_30, e⟩ := kv_L_e e hRz
      refine kv_callq (pa := pa) (n := n) (va_runV (As := [.int p0]) (rest := []) ⟨hx, hb, hml, hown, hts⟩ (c_K_get l D ci ad kc kh ks fo kl kp dy mo n pa aE qp qm ql qv qc qe mt mv sw hv tk tn sc p0 hi_30 hn_30 H.size) (cwV 1 hts gX2_rightAt_Jx4a65c_get_915e3 rfl rfl rfl (by decide +kernel) ⟨Nat.le_of_ble_eq_true rfl, Nat.le_of_ble_eq_true rfl⟩) (kv_preV hK hP hD (r := (RJx4a65c, TJx4a65c, 3)) (q0 := 7) (k := 0) rfl rfl rfl) rfl rfl hl.1 rfl (lv_room (Nat.le_of_ble_eq_true rfl)) dX2_rightAt_30 ⟨Nat.le_of_ble_eq_true rfl, Nat.le_of_ble_eq_true rfl⟩) hD hS hA (fun k_30 H locs hk_30 ek_30 hP hD hS => ?_)
      have e := kv_T_e e ek_30
      refine va_castS hx hb hown (hts (.classLink RX2 84 "LicenceKeeper$Right") (by decide +kernel)) (hK.1 2 _ rfl).2 (va_recv hK hP (ci := 2) (q0 := 24 + k_30) rfl (kv_rt hk_30)) dX2_rightAt_33 ?_
      rw [hQ]
      exact W.aret (v := .ref (pa k_30)) hx hb hr (Or.inl ⟨_, rfl⟩) (Or.inr ⟨_, rfl⟩) (fun t ht hW => ⟨⟨some (pa k_30), k_30, rfl, ⟨rfl, hk_30, e⟩, ⟨by rw [ht]; exact hP, by rw [hAe]; exact hD⟩⟩, hS.F ht⟩) hS.2.2 dX2_rightAt_36
    · have e := e.trans (if_neg c_12)
      exact absurd e hRz

def pf_X2n_setCores (p0 : Int32) (p1 : Int32) (kc : Nat → Int32) : Option (Int32 × (Nat → Int32)) :=
  kv_q0 (pf_X2n_requireMachine p0) (kv_q0 (pf_X2n_requireRange p1 1 64) (kv_G p0 8 (kv_T (kc p0.toNatClampNeg) (fun y_16 => kv_G p0 8 (kv_T (upd kc p0.toNatClampNeg p1) (fun g_24 => some (y_16, g_24)))))))
abbrev rmX2n_setCores : Room := { frames := 1, cells := 0, slots := 0, locals := 22 }
set_option maxHeartbeats 4000000 in
set_option maxRecDepth 100000 in
theorem c_X2n_setCores (l : Launch) (D : va_G) (ci ad : Nat → Nat) (kc : Nat → Int32) (kh : Nat → Int32) (ks : Nat → Int32) (fo : Nat → Nat → Int32) (kl : Nat → Int32) (kp : Nat → Int32) (dy : Int32) (mo : Int32) (n : Nat) (pa : Nat → Nat) (aE : Nat) (qp : Nat → Int32) (qm : Nat → Int32) (ql : Nat → Int32) (qv : Nat → Int32) (qc : Nat → Int32) (qe : Nat → Int32) (mt : Nat → Int32) (mv : Nat → Int32) (sw : Nat → Int32) (hv : Int32) (tk : Nat → Int32) (tn : Nat → Int32) (sc : Nat → Int32) (p0 : Int32) (p1 : Int32)  (hRn : pf_X2n_setCores p0 p1 kc ≠ none) (sz : Nat) : Met l yX2_setCores wsX2_setCores rmX2n_setCores (va_Pc [.ref (ad 0), .int p0, .int p1] (kv_pre D ci (kv_kw ci ad kc kh ks fo kl kp dy mo n pa aE qp qm ql qv qc qe mt mv sw hv tk tn sc) sz)) (va_Qi (fun (r : Int32) (u : (Nat → Int32)) => pf_X2n_setCores p0 p1 kc = some (r, u)) (fun u t => kv_post D (kv_kw ci ad kc kh ks fo kl kp dy mo n pa aE qp qm ql qv qc qe mt mv sw hv tk tn sc) sz (kv_kw ci ad u kh ks fo kl kp dy mo n pa aE qp qm ql qv qc qe mt mv sw hv tk tn sc) t) (va_A (kv_kw ci ad kc kh ks fo kl kp dy mo n pa aE qp qm ql qv qc qe mt mv sw hv tk tn sc) sz)) 0 0 (va_A (kv_kw ci ad kc kh ks fo kl kp dy mo n pa aE qp qm ql qv qc qe mt mv sw hv tk tn sc) sz) := by
  refine Met.ofW (cc := cX2_setCores) (maxL := 4) (ret := (some .int)) (by decide) rfl ?_
  intro p en s m args below meth c s₁ B hml hv
  obtain ⟨hv0, hsz, hP, hK, hD0⟩ := hv
  have hx := B.exec
  have hb := B.bytes
  have hr := B.returns
  have hts := atoms_spec (ws := wsX2_setCores) B.pre
  have hown : s.vm.findClass RX2 = some m.cls := findClass_of_methodNamed B.named
  have hlocks := B.notSynchronized
  subst hsz
  have hD := hD0.self (sz := s.heap.size)
  generalize hAe : va_A (kv_kw ci ad kc kh ks fo kl kp dy mo n pa aE qp qm ql qv qc qe mt mv sw hv tk tn sc) s.heap.size = A at hD ⊢
  have hA : ∀ q : Nat, s.heap.size ≤ q → A q := fun q h => by rw [← hAe]; exact Or.inr h
  have hS : va_S A s.heap s.heap [] := va_S.rf
  have hP : va_P D vwCl (kv_kw ci ad kc kh ks fo kl kp dy mo n pa aE qp qm ql qv qc qe mt mv sw hv tk tn sc) s.heap := hP
  have hinRX2 : ∀ w ∈ u_ws RX2 TX2 9, w ∈ wsX2_setCores := by decide +kernel
  generalize hRd : pf_X2n_setCores p0 p1 kc = Rz at hRn
  have hRz := hRn
  refine kv_Q (fun Q hQ => ?_)
  refine W.eq (show entryFrame m args 4 = _ from by rw [hv0, lg_entry_eq]) ?_
  have hl := lv_entry ([.ref (ad 0), .int p0, .int p1]) (n := 4) (Nat.le_of_ble_eq_true rfl)
  generalize (lg_sl ([.ref (ad 0), .int p0, .int p1]) ++ List.replicate (4 - (lg_sl ([.ref (ad 0), .int p0, .int p1])).length) Slot.unset).toArray = ls at hl ⊢
  have hl : lv_has ls 4 [(0, .ref (ad 0)), (1, .int p0), (2, .int p1)] := hl
  have e : Rz = pf_X2n_setCores p0 p1 kc := hRd.symm
  rw [pf_X2n_setCores] at e
  refine lv_iload_n hx hb dX2_setCores_0 rfl (lv_at hl 1 rfl) ?_
  refine kv_callv (va_runS (As := [.int p0]) (rest := []) ⟨hx, hb, hml, hown, hts⟩ (c_X2n_requireMachine l D ci ad kc kh ks fo kl kp dy mo n pa aE qp qm ql qv qc qe mt mv sw hv tk tn sc p0 (kv_q0_n e hRz) s.heap.size) (va_cwS 1 hts gX2_setCores_X2_requireMachine rfl rfl rfl (by decide +kernel) ⟨Nat.le_of_ble_eq_true rfl, Nat.le_of_ble_eq_true rfl⟩) (kv_preS hK hP hD) rfl rfl hl.1 rfl (lv_room (Nat.le_of_ble_eq_true rfl)) dX2_setCores_1 ⟨Nat.le_of_ble_eq_true rfl, Nat.le_of_ble_eq_true rfl⟩) hD hS hA (fun u_1 H locs hw_1 hP hD hS => ?_)
  have e := kv_q0_e e hw_1
  refine lv_iload_n hx hb dX2_setCores_4 rfl (lv_at hl 2 rfl) ?_
  refine lv_iconst (v := 1) hx hb dX2_setCores_5 (by decide) ?_
  refine lv_bipush (v := 64) hx hb dX2_setCores_6 (by decide) ?_
  refine kv_callv (va_runS (As := [.int p1, .int 1, .int 64]) (rest := []) ⟨hx, hb, hml, hown, hts⟩ (c_X2n_requireRange l D ci ad kc kh ks fo kl kp dy mo n pa aE qp qm ql qv qc qe mt mv sw hv tk tn sc p1 1 64 (kv_q0_n e hRz) H.size) (va_cwS 3 hts gX2_setCores_X2_requireRange rfl rfl rfl (by decide +kernel) ⟨Nat.le_of_ble_eq_true rfl, Nat.le_of_ble_eq_true rfl⟩) (kv_preS hK hP hD) rfl rfl hl.1 rfl (lv_room (Nat.le_of_ble_eq_true rfl)) dX2_setCores_8 ⟨Nat.le_of_ble_eq_true rfl, Nat.le_of_ble_eq_true rfl⟩) hD hS hA (fun u_8 H locs hw_8 hP hD hS => ?_)
  have e := kv_q0_e e hw_8
  refine lv_aload_n hx hb dX2_setCores_11 rfl (lv_at hl 0 rfl) ?_
  refine va_get (D := D) (ci := 3) (v := .ref (ad 1)) (C := RX2) (T := TX2) (N := 9) hx hb hts hinRX2 hown hK hP 0 rfl rfl 0 (by decide) (hts (.fieldLink RX2 9 "LicenceKeeper" "cores" "[I") (by decide +kernel)) (fun _ h9 => h9) rfl dX2_setCores_12 ?_
  refine lv_iload_n hx hb dX2_setCores_15 rfl (lv_at hl 1 rfl) ?_
  obtain ⟨hi_16, e⟩ := kv_G_e e hRz
  refine kv_iald hx hb hK hP 1 0 hi_16 dX2_setCores_16 rfl rfl (fun y_16 ey_16 => ?_)
  have e := kv_T_e e ey_16
  refine lv_istore_n (lv' := [(3, .int y_16), (0, .ref (ad 0)), (1, .int p0), (2, .int p1)]) hx hb dX2_setCores_17 rfl hl (by decide) rfl (fun ls hl => ?_)
  refine lv_aload_n hx hb dX2_setCores_18 rfl (lv_at hl 1 rfl) ?_
  refine va_get (D := D) (ci := 3) (v := .ref (ad 1)) (C := RX2) (T := TX2) (N := 9) hx hb hts hinRX2 hown hK hP 0 rfl rfl 0 (by decide) (hts (.fieldLink RX2 9 "LicenceKeeper" "cores" "[I") (by decide +kernel)) (fun _ h9 => h9) rfl dX2_setCores_19 ?_
  refine lv_iload_n hx hb dX2_setCores_22 rfl (lv_at hl 2 rfl) ?_
  refine lv_iload_n hx hb dX2_setCores_23 rfl (lv_at hl 3 rfl) ?_
  obtain ⟨hi_24, e⟩ := kv_G_e e hRz
  refine kv_iast hx hb hK hP hD hS 1 0 (fun g_24 => (kv_kw ci ad g_24 kh ks fo kl kp dy mo n pa aE qp qm ql qv qc qe mt mv sw hv tk tn sc)) hi_24 dX2_setCores_24 rfl rfl (fun _ => rfl) (fun g_24 H locs eg_24 hP hD hS => ?_)
  have e := kv_T_e e eg_24
  refine lv_iload_n hx hb dX2_setCores_25 rfl (lv_at hl 0 rfl) ?_
  rw [hQ]
  exact W.iret (v := y_16) hx hb hr (fun t ht hW => ⟨⟨y_16, (g_24), rfl, e, ⟨by rw [ht]; exact hP, by rw [hAe]; exact hD⟩⟩, hS.F ht⟩) hS.2.2 dX2_setCores_26

def pf_X2n_find (kl : Nat → Int32) (p0 : Int32) (p1 : Int32) (p2 : Int32) (fo : Nat → Nat → Int32) : Option (Int32 × (Nat → Nat → Int32)) :=
  kv_q0 (pf_X2n_requireMachine p0) (kv_q0 (pf_X2n_requireProduct p1) (kv_G p1 4 (kv_T (kl p1.toNatClampNeg) (fun y_15 => kv_q0 (pf_X2n_requireRange p2 0 y_15) (kv_G p0 8 (kv_G p1 4 (kv_T (fo p0.toNatClampNeg p1.toNatClampNeg) (fun y_26 => kv_G p0 8 (kv_G p1 4 (kv_T (upd (fo p0.toNatClampNeg) p1.toNatClampNeg p2) (fun g_37 => some (y_26, (kv_upR fo p0.toNatClampNeg g_37)))))))))))))
abbrev rmX2n_find : Room := { frames := 1, cells := 0, slots := 0, locals := 22 }
set_option maxHeartbeats 4000000 in
set_option maxRecDepth 100000 in
theorem c_X2n_find (l : Launch) (D : va_G) (ci ad : Nat → Nat) (kc : Nat → Int32) (kh : Nat → Int32) (ks : Nat → Int32) (fo : Nat → Nat → Int32) (kl : Nat → Int32) (kp : Nat → Int32) (dy : Int32) (mo : Int32) (n : Nat) (pa : Nat → Nat) (aE : Nat) (qp : Nat → Int32) (qm : Nat → Int32) (ql : Nat → Int32) (qv : Nat → Int32) (qc : Nat → Int32) (qe : Nat → Int32) (mt : Nat → Int32) (mv : Nat → Int32) (sw : Nat → Int32) (hv : Int32) (tk : Nat → Int32) (tn : Nat → Int32) (sc : Nat → Int32) (p0 : Int32) (p1 : Int32) (p2 : Int32)  (hRn : pf_X2n_find kl p0 p1 p2 fo ≠ none) (sz : Nat) : Met l yX2_find wsX2_find rmX2n_find (va_Pc [.ref (ad 0), .int p0, .int p1, .int p2] (kv_pre D ci (kv_kw ci ad kc kh ks fo kl kp dy mo n pa aE qp qm ql qv qc qe mt mv sw hv tk tn sc) sz)) (va_Qi (fun (r : Int32) (u : (Nat → Nat → Int32)) => pf_X2n_find kl p0 p1 p2 fo = some (r, u)) (fun u t => kv_post D (kv_kw ci ad kc kh ks fo kl kp dy mo n pa aE qp qm ql qv qc qe mt mv sw hv tk tn sc) sz (kv_kw ci ad kc kh ks u kl kp dy mo n pa aE qp qm ql qv qc qe mt mv sw hv tk tn sc) t) (va_A (kv_kw ci ad kc kh ks fo kl kp dy mo n pa aE qp qm ql qv qc qe mt mv sw hv tk tn sc) sz)) 0 0 (va_A (kv_kw ci ad kc kh ks fo kl kp dy mo n pa aE qp qm ql qv qc qe mt mv sw hv tk tn sc) sz) := by
  refine Met.ofW (cc := cX2_find) (maxL := 5) (ret := (some .int)) (by decide) rfl ?_
  intro p en s m args below meth c s₁ B hml hv
  obtain ⟨hv0, hsz, hP, hK, hD0⟩ := hv
  have hx := B.exec
  have hb := B.bytes
  have hr := B.returns
  have hts := atoms_spec (ws := wsX2_find) B.pre
  have hown : s.vm.findClass RX2 = some m.cls := findClass_of_methodNamed B.named
  have hlocks := B.notSynchronized
  subst hsz
  have hD := hD0.self (sz := s.heap.size)
  generalize hAe : va_A (kv_kw ci ad kc kh ks fo kl kp dy mo n pa aE qp qm ql qv qc qe mt mv sw hv tk tn sc) s.heap.size = A at hD ⊢
  have hA : ∀ q : Nat, s.heap.size ≤ q → A q := fun q h => by rw [← hAe]; exact Or.inr h
  have hS : va_S A s.heap s.heap [] := va_S.rf
  have hP : va_P D vwCl (kv_kw ci ad kc kh ks fo kl kp dy mo n pa aE qp qm ql qv qc qe mt mv sw hv tk tn sc) s.heap := hP
  have hinRX2 : ∀ w ∈ u_ws RX2 TX2 9, w ∈ wsX2_find := by decide +kernel
  generalize hRd : pf_X2n_find kl p0 p1 p2 fo = Rz at hRn
  have hRz := hRn
  refine kv_Q (fun Q hQ => ?_)
  refine W.eq (show entryFrame m args 5 = _ from by rw [hv0, lg_entry_eq]) ?_
  have hl := lv_entry ([.ref (ad 0), .int p0, .int p1, .int p2]) (n := 5) (Nat.le_of_ble_eq_true rfl)
  generalize (lg_sl ([.ref (ad 0), .int p0, .int p1, .int p2]) ++ List.replicate (5 - (lg_sl ([.ref (ad 0), .int p0, .int p1, .int p2])).length) Slot.unset).toArray = ls at hl ⊢
  have hl : lv_has ls 5 [(0, .ref (ad 0)), (1, .int p0), (2, .int p1), (3, .int p2)] := hl
  have e : Rz = pf_X2n_find kl p0 p1 p2 fo := hRd.symm
  rw [pf_X2n_find] at e
  refine lv_iload_n hx hb dX2_find_0 rfl (lv_at hl 1 rfl) ?_
  refine kv_callv (va_runS (As := [.int p0]) (rest := []) ⟨hx, hb, hml, hown, hts⟩ (c_X2n_requireMachine l D ci ad kc kh ks fo kl kp dy mo n pa aE qp qm ql qv qc qe mt mv sw hv tk tn sc p0 (kv_q0_n e hRz) s.heap.size) (va_cwS 1 hts gX2_find_X2_requireMachine rfl rfl rfl (by decide +kernel) ⟨Nat.le_of_ble_eq_true rfl, Nat.le_of_ble_eq_true rfl⟩) (kv_preS hK hP hD) rfl rfl hl.1 rfl (lv_room (Nat.le_of_ble_eq_true rfl)) dX2_find_1 ⟨Nat.le_of_ble_eq_true rfl, Nat.le_of_ble_eq_true rfl⟩) hD hS hA (fun u_1 H locs hw_1 hP hD hS => ?_)
  have e := kv_q0_e e hw_1
  refine lv_iload_n hx hb dX2_find_4 rfl (lv_at hl 2 rfl) ?_
  refine kv_callv (va_runS (As := [.int p1]) (rest := []) ⟨hx, hb, hml, hown, hts⟩ (c_X2n_requireProduct l D ci ad kc kh ks fo kl kp dy mo n pa aE qp qm ql qv qc qe mt mv sw hv tk tn sc p1 (kv_q0_n e hRz) H.size) (va_cwS 1 hts gX2_find_X2_requireProduct rfl rfl rfl (by decide +kernel) ⟨Nat.le_of_ble_eq_true rfl, Nat.le_of_ble_eq_true rfl⟩) (kv_preS hK hP hD) rfl rfl hl.1 rfl (lv_room (Nat.le_of_ble_eq_true rfl)) dX2_find_5 ⟨Nat.le_of_ble_eq_true rfl, Nat.le_of_ble_eq_true rfl⟩) hD hS hA (fun u_5 H locs hw_5 hP hD hS => ?_)
  have e := kv_q0_e e hw_5
  refine lv_iload_n hx hb dX2_find_8 rfl (lv_at hl 3 rfl) ?_
  refine lv_iconst (v := 0) hx hb dX2_find_9 (by decide) ?_
  refine lv_aload_n hx hb dX2_find_10 rfl (lv_at hl 0 rfl) ?_
  refine va_get (D := D) (ci := 3) (v := .ref (ad 5)) (C := RX2) (T := TX2) (N := 9) hx hb hts hinRX2 hown hK hP 0 rfl rfl 4 (by decide) (hts (.fieldLink RX2 24 "LicenceKeeper" "latestVersions" "[I") (by decide +kernel)) (fun _ h9 => h9) rfl dX2_find_11 ?_
  refine lv_iload_n hx hb dX2_find_14 rfl (lv_at hl 2 rfl) ?_
  obtain ⟨hi_15, e⟩ := kv_G_e e hRz
  refine kv_iald hx hb hK hP 5 0 hi_15 dX2_find_15 rfl rfl (fun y_15 ey_15 => ?_)
  have e := kv_T_e e ey_15
  refine kv_callv (va_runS (As := [.int p2, .int 0, .int y_15]) (rest := []) ⟨hx, hb, hml, hown, hts⟩ (c_X2n_requireRange l D ci ad kc kh ks fo kl kp dy mo n pa aE qp qm ql qv qc qe mt mv sw hv tk tn sc p2 0 y_15 (kv_q0_n e hRz) H.size) (va_cwS 3 hts gX2_find_X2_requireRange rfl rfl rfl (by decide +kernel) ⟨Nat.le_of_ble_eq_true rfl, Nat.le_of_ble_eq_true rfl⟩) (kv_preS hK hP hD) rfl rfl hl.1 rfl (lv_room (Nat.le_of_ble_eq_true rfl)) dX2_find_16 ⟨Nat.le_of_ble_eq_true rfl, Nat.le_of_ble_eq_true rfl⟩) hD hS hA (fun u_16 H locs hw_16 hP hD hS => ?_)
  have e := kv_q0_e e hw_16
  refine lv_aload_n hx hb dX2_find_19 rfl (lv_at hl 0 rfl) ?_
  refine va_get (D := D) (ci := 3) (v := .ref (ad 4)) (C := RX2) (T := TX2) (N := 9) hx hb hts hinRX2 hown hK hP 0 rfl rfl 3 (by decide) (hts (.fieldLink RX2 21 "LicenceKeeper" "found" "[[I") (by decide +kernel)) (fun _ h9 => h9) rfl dX2_find_20 ?_
  refine lv_iload_n hx hb dX2_find_23 rfl (lv_at hl 1 rfl) ?_
  obtain ⟨hi_24, e⟩ := kv_G_e e hRz
  refine kv_aldr hx hb hK hP 4 3 hi_24 (kv_out hi_24) dX2_find_24 rfl rfl ?_
  refine lv_iload_n hx hb dX2_find_25 rfl (lv_at hl 2 rfl) ?_
  obtain ⟨hi_26, e⟩ := kv_G_e e hRz
  refine kv_iald hx hb hK hP (15 + p0.toNatClampNeg) 0 hi_26 dX2_find_26 (kv_row hi_24) rfl (fun y_26 ey_26 => ?_)
  have e := kv_T_e e ey_26
  refine lv_istore (lv' := [(4, .int y_26), (0, .ref (ad 0)), (1, .int p0), (2, .int p1), (3, .int p2)]) hx hb dX2_find_27 hl (by decide) rfl (fun ls hl => ?_)
  refine lv_aload_n hx hb dX2_find_29 rfl (lv_at hl 1 rfl) ?_
  refine va_get (D := D) (ci := 3) (v := .ref (ad 4)) (C := RX2) (T := TX2) (N := 9) hx hb hts hinRX2 hown hK hP 0 rfl rfl 3 (by decide) (hts (.fieldLink RX2 21 "LicenceKeeper" "found" "[[I") (by decide +kernel)) (fun _ h9 => h9) rfl dX2_find_30 ?_
  refine lv_iload_n hx hb dX2_find_33 rfl (lv_at hl 2 rfl) ?_
  obtain ⟨hi_34, e⟩ := kv_G_e e hRz
  refine kv_aldr hx hb hK hP 4 3 hi_34 (kv_out hi_34) dX2_find_34 rfl rfl ?_
  refine lv_iload_n hx hb dX2_find_35 rfl (lv_at hl 3 rfl) ?_
  refine lv_iload_n hx hb dX2_find_36 rfl (lv_at hl 4 rfl) ?_
  obtain ⟨hi_37, e⟩ := kv_G_e e hRz
  refine kv_iast hx hb hK hP hD hS (15 + p0.toNatClampNeg) 0 (fun g_37 => (kv_kw ci ad kc kh ks (kv_upR fo p0.toNatClampNeg g_37) kl kp dy mo n pa aE qp qm ql qv qc qe mt mv sw hv tk tn sc)) hi_37 dX2_find_37 (kv_row hi_34) rfl (fun _ => kv_row_set hi_34 _) (fun g_37 H locs eg_37 hP hD hS => ?_)
  have e := kv_T_e e eg_37
  refine lv_iload hx hb dX2_find_38 (lv_at hl 0 rfl) ?_
  rw [hQ]
  exact W.iret (v := y_26) hx hb hr (fun t ht hW => ⟨⟨y_26, ((kv_upR fo p0.toNatClampNeg g_37)), rfl, e, ⟨by rw [ht]; exact hP, by rw [hAe]; exact hD⟩⟩, hS.F ht⟩) hS.2.2 dX2_find_40

def pf_X2n_setPrice (p0 : Int32) (p1 : Int32) (kp : Nat → Int32) : Option (Int32 × (Nat → Int32)) :=
  kv_q0 (pf_X2n_requireProduct p0) (kv_q0 (pf_X2n_requireRange p1 0 1000) (kv_G p0 4 (kv_T (kp p0.toNatClampNeg) (fun y_17 => kv_G p0 4 (kv_T (upd kp p0.toNatClampNeg p1) (fun g_25 => some (y_17, g_25)))))))
abbrev rmX2n_setPrice : Room := { frames := 1, cells := 0, slots := 0, locals := 22 }
set_option maxHeartbeats 4000000 in
set_option maxRecDepth 100000 in
theorem c_X2n_setPrice (l : Launch) (D : va_G) (ci ad : Nat → Nat) (kc : Nat → Int32) (kh : Nat → Int32) (ks : Nat → Int32) (fo : Nat → Nat → Int32) (kl : Nat → Int32) (kp : Nat → Int32) (dy : Int32) (mo : Int32) (n : Nat) (pa : Nat → Nat) (aE : Nat) (qp : Nat → Int32) (qm : Nat → Int32) (ql : Nat → Int32) (qv : Nat → Int32) (qc : Nat → Int32) (qe : Nat → Int32) (mt : Nat → Int32) (mv : Nat → Int32) (sw : Nat → Int32) (hv : Int32) (tk : Nat → Int32) (tn : Nat → Int32) (sc : Nat → Int32) (p0 : Int32) (p1 : Int32)  (hRn : pf_X2n_setPrice p0 p1 kp ≠ none) (sz : Nat) : Met l yX2_setPrice wsX2_setPrice rmX2n_setPrice (va_Pc [.ref (ad 0), .int p0, .int p1] (kv_pre D ci (kv_kw ci ad kc kh ks fo kl kp dy mo n pa aE qp qm ql qv qc qe mt mv sw hv tk tn sc) sz)) (va_Qi (fun (r : Int32) (u : (Nat → Int32)) => pf_X2n_setPrice p0 p1 kp = some (r, u)) (fun u t => kv_post D (kv_kw ci ad kc kh ks fo kl kp dy mo n pa aE qp qm ql qv qc qe mt mv sw hv tk tn sc) sz (kv_kw ci ad kc kh ks fo kl u dy mo n pa aE qp qm ql qv qc qe mt mv sw hv tk tn sc) t) (va_A (kv_kw ci ad kc kh ks fo kl kp dy mo n pa aE qp qm ql qv qc qe mt mv sw hv tk tn sc) sz)) 0 0 (va_A (kv_kw ci ad kc kh ks fo kl kp dy mo n pa aE qp qm ql qv qc qe mt mv sw hv tk tn sc) sz) := by
  refine Met.ofW (cc := cX2_setPrice) (maxL := 4) (ret := (some .int)) (by decide) rfl ?_
  intro p en s m args below meth c s₁ B hml hv
  obtain ⟨hv0, hsz, hP, hK, hD0⟩ := hv
  have hx := B.exec
  have hb := B.bytes
  have hr := B.returns
  have hts := atoms_spec (ws := wsX2_setPrice) B.pre
  have hown : s.vm.findClass RX2 = some m.cls := findClass_of_methodNamed B.named
  have hlocks := B.notSynchronized
  subst hsz
  have hD := hD0.self (sz := s.heap.size)
  generalize hAe : va_A (kv_kw ci ad kc kh ks fo kl kp dy mo n pa aE qp qm ql qv qc qe mt mv sw hv tk tn sc) s.heap.size = A at hD ⊢
  have hA : ∀ q : Nat, s.heap.size ≤ q → A q := fun q h => by rw [← hAe]; exact Or.inr h
  have hS : va_S A s.heap s.heap [] := va_S.rf
  have hP : va_P D vwCl (kv_kw ci ad kc kh ks fo kl kp dy mo n pa aE qp qm ql qv qc qe mt mv sw hv tk tn sc) s.heap := hP
  have hinRX2 : ∀ w ∈ u_ws RX2 TX2 9, w ∈ wsX2_setPrice := by decide +kernel
  generalize hRd : pf_X2n_setPrice p0 p1 kp = Rz at hRn
  have hRz := hRn
  refine kv_Q (fun Q hQ => ?_)
  refine W.eq (show entryFrame m args 4 = _ from by rw [hv0, lg_entry_eq]) ?_
  have hl := lv_entry ([.ref (ad 0), .int p0, .int p1]) (n := 4) (Nat.le_of_ble_eq_true rfl)
  generalize (lg_sl ([.ref (ad 0), .int p0, .int p1]) ++ List.replicate (4 - (lg_sl ([.ref (ad 0), .int p0, .int p1])).length) Slot.unset).toArray = ls at hl ⊢
  have hl : lv_has ls 4 [(0, .ref (ad 0)), (1, .int p0), (2, .int p1)] := hl
  have e : Rz = pf_X2n_setPrice p0 p1 kp := hRd.symm
  rw [pf_X2n_setPrice] at e
  refine lv_iload_n hx hb dX2_setPrice_0 rfl (lv_at hl 1 rfl) ?_
  refine kv_callv (va_runS (As := [.int p0]) (rest := []) ⟨hx, hb, hml, hown, hts⟩ (c_X2n_requireProduct l D ci ad kc kh ks fo kl kp dy mo n pa aE qp qm ql qv qc qe mt mv sw hv tk tn sc p0 (kv_q0_n e hRz) s.heap.size) (va_cwS 1 hts gX2_setPrice_X2_requireProduct rfl rfl rfl (by decide +kernel) ⟨Nat.le_of_ble_eq_true rfl, Nat.le_of_ble_eq_true rfl⟩) (kv_preS hK hP hD) rfl rfl hl.1 rfl (lv_room (Nat.le_of_ble_eq_true rfl)) dX2_setPrice_1 ⟨Nat.le_of_ble_eq_true rfl, Nat.le_of_ble_eq_true rfl⟩) hD hS hA (fun u_1 H locs hw_1 hP hD hS => ?_)
  have e := kv_q0_e e hw_1
  refine lv_iload_n hx hb dX2_setPrice_4 rfl (lv_at hl 2 rfl) ?_
  refine lv_iconst (v := 0) hx hb dX2_setPrice_5 (by decide) ?_
  refine lv_sipush (v := 1000) hx hb dX2_setPrice_6 (by decide) ?_
  refine kv_callv (va_runS (As := [.int p1, .int 0, .int 1000]) (rest := []) ⟨hx, hb, hml, hown, hts⟩ (c_X2n_requireRange l D ci ad kc kh ks fo kl kp dy mo n pa aE qp qm ql qv qc qe mt mv sw hv tk tn sc p1 0 1000 (kv_q0_n e hRz) H.size) (va_cwS 3 hts gX2_setPrice_X2_requireRange rfl rfl rfl (by decide +kernel) ⟨Nat.le_of_ble_eq_true rfl, Nat.le_of_ble_eq_true rfl⟩) (kv_preS hK hP hD) rfl rfl hl.1 rfl (lv_room (Nat.le_of_ble_eq_true rfl)) dX2_setPrice_9 ⟨Nat.le_of_ble_eq_true rfl, Nat.le_of_ble_eq_true rfl⟩) hD hS hA (fun u_9 H locs hw_9 hP hD hS => ?_)
  have e := kv_q0_e e hw_9
  refine lv_aload_n hx hb dX2_setPrice_12 rfl (lv_at hl 0 rfl) ?_
  refine va_get (D := D) (ci := 3) (v := .ref (ad 6)) (C := RX2) (T := TX2) (N := 9) hx hb hts hinRX2 hown hK hP 0 rfl rfl 5 (by decide) (hts (.fieldLink RX2 27 "LicenceKeeper" "prices" "[I") (by decide +kernel)) (fun _ h9 => h9) rfl dX2_setPrice_13 ?_
  refine lv_iload_n hx hb dX2_setPrice_16 rfl (lv_at hl 1 rfl) ?_
  obtain ⟨hi_17, e⟩ := kv_G_e e hRz
  refine kv_iald hx hb hK hP 6 0 hi_17 dX2_setPrice_17 rfl rfl (fun y_17 ey_17 => ?_)
  have e := kv_T_e e ey_17
  refine lv_istore_n (lv' := [(3, .int y_17), (0, .ref (ad 0)), (1, .int p0), (2, .int p1)]) hx hb dX2_setPrice_18 rfl hl (by decide) rfl (fun ls hl => ?_)
  refine lv_aload_n hx hb dX2_setPrice_19 rfl (lv_at hl 1 rfl) ?_
  refine va_get (D := D) (ci := 3) (v := .ref (ad 6)) (C := RX2) (T := TX2) (N := 9) hx hb hts hinRX2 hown hK hP 0 rfl rfl 5 (by decide) (hts (.fieldLink RX2 27 "LicenceKeeper" "prices" "[I") (by decide +kernel)) (fun _ h9 => h9) rfl dX2_setPrice_20 ?_
  refine lv_iload_n hx hb dX2_setPrice_23 rfl (lv_at hl 2 rfl) ?_
  refine lv_iload_n hx hb dX2_setPrice_24 rfl (lv_at hl 3 rfl) ?_
  obtain ⟨hi_25, e⟩ := kv_G_e e hRz
  refine kv_iast hx hb hK hP hD hS 6 0 (fun g_25 => (kv_kw ci ad kc kh ks fo kl g_25 dy mo n pa aE qp qm ql qv qc qe mt mv sw hv tk tn sc)) hi_25 dX2_setPrice_25 rfl rfl (fun _ => rfl) (fun g_25 H locs eg_25 hP hD hS => ?_)
  have e := kv_T_e e eg_25
  refine lv_iload_n hx hb dX2_setPrice_26 rfl (lv_at hl 0 rfl) ?_
  rw [hQ]
  exact W.iret (v := y_17) hx hb hr (fun t ht hW => ⟨⟨y_17, (g_25), rfl, e, ⟨by rw [ht]; exact hP, by rw [hAe]; exact hD⟩⟩, hS.F ht⟩) hS.2.2 dX2_setPrice_27

def pf_X2n_pass (p0 : Int32) (dy : Int32) : Option (Int32 × Int32) :=
  kv_q0 (pf_X2n_requireRange p0 1 400) (kv_T (dy + p0) (fun y_15 => some (y_15, y_15)))
abbrev rmX2n_pass : Room := { frames := 1, cells := 0, slots := 0, locals := 22 }
set_option maxHeartbeats 4000000 in
set_option maxRecDepth 100000 in
theorem c_X2n_pass (l : Launch) (D : va_G) (ci ad : Nat → Nat) (kc : Nat → Int32) (kh : Nat → Int32) (ks : Nat → Int32) (fo : Nat → Nat → Int32) (kl : Nat → Int32) (kp : Nat → Int32) (dy : Int32) (mo : Int32) (n : Nat) (pa : Nat → Nat) (aE : Nat) (qp : Nat → Int32) (qm : Nat → Int32) (ql : Nat → Int32) (qv : Nat → Int32) (qc : Nat → Int32) (qe : Nat → Int32) (mt : Nat → Int32) (mv : Nat → Int32) (sw : Nat → Int32) (hv : Int32) (tk : Nat → Int32) (tn : Nat → Int32) (sc : Nat → Int32) (p0 : Int32)  (hRn : pf_X2n_pass p0 dy ≠ none) (sz : Nat) : Met l yX2_pass wsX2_pass rmX2n_pass (va_Pc [.ref (ad 0), .int p0] (kv_pre D ci (kv_kw ci ad kc kh ks fo kl kp dy mo n pa aE qp qm ql qv qc qe mt mv sw hv tk tn sc) sz)) (va_Qi (fun (r : Int32) (u : Int32) => pf_X2n_pass p0 dy = some (r, u)) (fun u t => kv_post D (kv_kw ci ad kc kh ks fo kl kp dy mo n pa aE qp qm ql qv qc qe mt mv sw hv tk tn sc) sz (kv_kw ci ad kc kh ks fo kl kp u mo n pa aE qp qm ql qv qc qe mt mv sw hv tk tn sc) t) (va_A (kv_kw ci ad kc kh ks fo kl kp dy mo n pa aE qp qm ql qv qc qe mt mv sw hv tk tn sc) sz)) 0 0 (va_A (kv_kw ci ad kc kh ks fo kl kp dy mo n pa aE qp qm ql qv qc qe mt mv sw hv tk tn sc) sz) := by
  refine Met.ofW (cc := cX2_pass) (maxL := 2) (ret := (some .int)) (by decide) rfl ?_
  intro p en s m args below meth c s₁ B hml hv
  obtain ⟨hv0, hsz, hP, hK, hD0⟩ := hv
  have hx := B.exec
  have hb := B.bytes
  have hr := B.returns
  have hts := atoms_spec (ws := wsX2_pass) B.pre
  have hown : s.vm.findClass RX2 = some m.cls := findClass_of_methodNamed B.named
  have hlocks := B.notSynchronized
  subst hsz
  have hD := hD0.self (sz := s.heap.size)
  generalize hAe : va_A (kv_kw ci ad kc kh ks fo kl kp dy mo n pa aE qp qm ql qv qc qe mt mv sw hv tk tn sc) s.heap.size = A at hD ⊢
  have hA : ∀ q : Nat, s.heap.size ≤ q → A q := fun q h => by rw [← hAe]; exact Or.inr h
  have hS : va_S A s.heap s.heap [] := va_S.rf
  have hP : va_P D vwCl (kv_kw ci ad kc kh ks fo kl kp dy mo n pa aE qp qm ql qv qc qe mt mv sw hv tk tn sc) s.heap := hP
  have hinRX2 : ∀ w ∈ u_ws RX2 TX2 9, w ∈ wsX2_pass := by decide +kernel
  generalize hRd : pf_X2n_pass p0 dy = Rz at hRn
  have hRz := hRn
  refine kv_Q (fun Q hQ => ?_)
  refine W.eq (show entryFrame m args 2 = _ from by rw [hv0, lg_entry_eq]) ?_
  have hl := lv_entry ([.ref (ad 0), .int p0]) (n := 2) (Nat.le_of_ble_eq_true rfl)
  generalize (lg_sl ([.ref (ad 0), .int p0]) ++ List.replicate (2 - (lg_sl ([.ref (ad 0), .int p0])).length) Slot.unset).toArray = ls at hl ⊢
  have hl : lv_has ls 2 [(0, .ref (ad 0)), (1, .int p0)] := hl
  have e : Rz = pf_X2n_pass p0 dy := hRd.symm
  rw [pf_X2n_pass] at e
  refine lv_iload_n hx hb dX2_pass_0 rfl (lv_at hl 1 rfl) ?_
  refine lv_iconst (v := 1) hx hb dX2_pass_1 (by decide) ?_
  refine lv_sipush (v := 400) hx hb dX2_pass_2 (by decide) ?_
  refine kv_callv (va_runS (As := [.int p0, .int 1, .int 400]) (rest := []) ⟨hx, hb, hml, hown, hts⟩ (c_X2n_requireRange l D ci ad kc kh ks fo kl kp dy mo n pa aE qp qm ql qv qc qe mt mv sw hv tk tn sc p0 1 400 (kv_q0_n e hRz) s.heap.size) (va_cwS 3 hts gX2_pass_X2_requireRange rfl rfl rfl (by decide +kernel) ⟨Nat.le_of_ble_eq_true rfl, Nat.le_of_ble_eq_true rfl⟩) (kv_preS hK hP hD) rfl rfl hl.1 rfl (lv_room (Nat.le_of_ble_eq_true rfl)) dX2_pass_5 ⟨Nat.le_of_ble_eq_true rfl, Nat.le_of_ble_eq_true rfl⟩) hD hS hA (fun u_5 H locs hw_5 hP hD hS => ?_)
  have e := kv_q0_e e hw_5
  refine lv_aload_n hx hb dX2_pass_8 rfl (lv_at hl 0 rfl) ?_
  refine lv_dup hx hb dX2_pass_9 rfl ?_
  refine va_get (D := D) (ci := 3) (v := .int dy) (C := RX2) (T := TX2) (N := 9) hx hb hts hinRX2 hown hK hP 0 rfl rfl 8 (by decide) (hts (.fieldLink RX2 44 "LicenceKeeper" "day" "I") (by decide +kernel)) (fun _ h9 => h9) rfl dX2_pass_10 ?_
  refine lv_iload_n hx hb dX2_pass_13 rfl (lv_at hl 1 rfl) ?_
  refine lv_iadd hx hb dX2_pass_14 ?_
  refine lv_topi (fun y_15 ey_15 => ?_)
  have e := kv_T_e e ey_15
  refine va_put (D := D) (ci := 3) (v := .int y_15) (ty := .int) (C := RX2) (T := TX2) (N := 9) hx hb hts hinRX2 tyX2 tyX2_ok nmX2 hown hK hP hD hS 0 rfl rfl 8 (by decide) (hts (.fieldLink RX2 44 "LicenceKeeper" "day" "I") (by decide +kernel)) (fun _ h9 => h9) rfl (by decide +kernel) rfl rfl (Nat.le_of_ble_eq_true rfl) dX2_pass_15 (fun H locs hP hD hS => ?_)
  have hP : va_P D vwCl (kv_kw ci ad kc kh ks fo kl kp y_15 mo n pa aE qp qm ql qv qc qe mt mv sw hv tk tn sc) H := hP
  have hD : va_D A (kv_kw ci ad kc kh ks fo kl kp y_15 mo n pa aE qp qm ql qv qc qe mt mv sw hv tk tn sc) := hD
  refine lv_aload_n hx hb dX2_pass_18 rfl (lv_at hl 0 rfl) ?_
  refine va_get (D := D) (ci := 3) (v := .int y_15) (C := RX2) (T := TX2) (N := 9) hx hb hts hinRX2 hown hK hP 0 rfl rfl 8 (by decide) (hts (.fieldLink RX2 44 "LicenceKeeper" "day" "I") (by decide +kernel)) (fun _ h9 => h9) rfl dX2_pass_19 ?_
  rw [hQ]
  exact W.iret (v := y_15) hx hb hr (fun t ht hW => ⟨⟨y_15, (y_15), rfl, e, ⟨by rw [ht]; exact hP, by rw [hAe]; exact hD⟩⟩, hS.F ht⟩) hS.2.2 dX2_pass_22

def pf_X2n_countOf (n : Nat) (qc : Nat → Int32) (p0 : Int32)  : Option (Int32) :=
  kv_q1 (pf_X2n_rightAt n p0) (fun k_2 => some ((qc k_2)))
abbrev rmX2n_countOf : Room := { frames := 4, cells := 0, slots := 0, locals := 85 }
set_option maxHeartbeats 4000000 in
set_option maxRecDepth 100000 in
theorem c_X2n_countOf (l : Launch) (D : va_G) (ci ad : Nat → Nat) (kc : Nat → Int32) (kh : Nat → Int32) (ks : Nat → Int32) (fo : Nat → Nat → Int32) (kl : Nat → Int32) (kp : Nat → Int32) (dy : Int32) (mo : Int32) (n : Nat) (pa : Nat → Nat) (aE : Nat) (qp : Nat → Int32) (qm : Nat → Int32) (ql : Nat → Int32) (qv : Nat → Int32) (qc : Nat → Int32) (qe : Nat → Int32) (mt : Nat → Int32) (mv : Nat → Int32) (sw : Nat → Int32) (hv : Int32) (tk : Nat → Int32) (tn : Nat → Int32) (sc : Nat → Int32) (p0 : Int32)  (hRn : pf_X2n_countOf n qc p0 ≠ none) (sz : Nat) : Met l yX2_countOf wsX2_countOf rmX2n_countOf (va_Pc [.ref (ad 0), .int p0] (kv_pre D ci (kv_kw ci ad kc kh ks fo kl kp dy mo n pa aE qp qm ql qv qc qe mt mv sw hv tk tn sc) sz)) (va_Qi (fun (r : Int32) (u : Unit) => pf_X2n_countOf n qc p0 = some (r)) (fun u t => kv_post D (kv_kw ci ad kc kh ks fo kl kp dy mo n pa aE qp qm ql qv qc qe mt mv sw hv tk tn sc) sz (kv_kw ci ad kc kh ks fo kl kp dy mo n pa aE qp qm ql qv qc qe mt mv sw hv tk tn sc) t) (va_A (kv_kw ci ad kc kh ks fo kl kp dy mo n pa aE qp qm ql qv qc qe mt mv sw hv tk tn sc) sz)) 0 0 (va_A (kv_kw ci ad kc kh ks fo kl kp dy mo n pa aE qp qm ql qv qc qe mt mv sw hv tk tn sc) sz) := by
  refine Met.ofW (cc := cX2_countOf) (maxL := 2) (ret := (some .int)) (by decide) rfl ?_
  intro p en s m args below meth c s₁ B hml hv
  obtain ⟨hv0, hsz, hP, hK, hD0⟩ := hv
  have hx := B.exec
  have hb := B.bytes
  have hr := B.returns
  have hts := atoms_spec (ws := wsX2_countOf) B.pre
  have hown : s.vm.findClass RX2 = some m.cls := findClass_of_methodNamed B.named
  have hlocks := B.notSynchronized
  subst hsz
  have hD := hD0.self (sz := s.heap.size)
  generalize hAe : va_A (kv_kw ci ad kc kh ks fo kl kp dy mo n pa aE qp qm ql qv qc qe mt mv sw hv tk tn sc) s.heap.size = A at hD ⊢
  have hA : ∀ q : Nat, s.heap.size ≤ q → A q := fun q h => by rw [← hAe]; exact Or.inr h
  have hS : va_S A s.heap s.heap [] := va_S.rf
  have hP : va_P D vwCl (kv_kw ci ad kc kh ks fo kl kp dy mo n pa aE qp qm ql qv qc qe mt mv sw hv tk tn sc) s.heap := hP
  have hinRX1 : ∀ w ∈ u_ws RX1 TX1 6, w ∈ wsX2_countOf := by decide +kernel
  generalize hRd : pf_X2n_countOf n qc p0 = Rz at hRn
  have hRz := hRn
  refine kv_Q (fun Q hQ => ?_)
  refine W.eq (show entryFrame m args 2 = _ from by rw [hv0, lg_entry_eq]) ?_
  have hl := lv_entry ([.ref (ad 0), .int p0]) (n := 2) (Nat.le_of_ble_eq_true rfl)
  generalize (lg_sl ([.ref (ad 0), .int p0]) ++ List.replicate (2 - (lg_sl ([.ref (ad 0), .int p0])).length) Slot.unset).toArray = ls at hl ⊢
  have hl : lv_has ls 2 [(0, .ref (ad 0)), (1, .int p0)] := hl
  have e : Rz = pf_X2n_countOf n qc p0 := hRd.symm
  rw [pf_X2n_countOf] at e
  refine lv_aload_n hx hb dX2_countOf_0 rfl (lv_at hl 0 rfl) ?_
  refine lv_iload_n hx hb dX2_countOf_1 rfl (lv_at hl 1 rfl) ?_
  refine kv_callq (pa := pa) (n := n) (va_runV (As := [.int p0]) (rest := []) ⟨hx, hb, hml, hown, hts⟩ (c_X2n_rightAt l D ci ad kc kh ks fo kl kp dy mo n pa aE qp qm ql qv qc qe mt mv sw hv tk tn sc p0 (kv_q1_n e hRz) s.heap.size) (cwV 1 hts gX2_countOf_X2_rightAt rfl rfl rfl (by decide +kernel) ⟨Nat.le_of_ble_eq_true rfl, Nat.le_of_ble_eq_true rfl⟩) (kv_preV hK hP hD (r := (RX2, TX2, 9)) (q0 := 0) (k := 3) rfl rfl rfl) rfl rfl hl.1 rfl (lv_room (Nat.le_of_ble_eq_true rfl)) dX2_countOf_2 ⟨Nat.le_of_ble_eq_true rfl, Nat.le_of_ble_eq_true rfl⟩) hD hS hA (fun k_2 H locs hk_2 hw_2 hP hD hS => ?_)
  have e := kv_q1_e e hw_2
  refine va_get (D := D) (ci := 2) (v := .int (qc k_2)) (C := RX1) (T := TX1) (N := 6) hx hb hts hinRX1 hown hK hP (24 + k_2) (kv_rt hk_2) rfl 4 (by decide) (hts (.fieldLink RX2 112 "LicenceKeeper$Right" "count" "I") (by decide +kernel)) (fun _ h9 => h9) rfl dX2_countOf_5 ?_
  rw [hQ]
  exact W.iret (v := (qc k_2)) hx hb hr (fun t ht hW => ⟨⟨(qc k_2), (), rfl, e, ⟨by rw [ht]; exact hP, by rw [hAe]; exact hD⟩⟩, hS.F ht⟩) hS.2.2 dX2_countOf_8

def pf_X2n_versionOf (n : Nat) (qv : Nat → Int32) (p0 : Int32)  : Option (Int32) :=
  kv_q1 (pf_X2n_rightAt n p0) (fun k_2 => some ((qv k_2)))
abbrev rmX2n_versionOf : Room := { frames := 4, cells := 0, slots := 0, locals := 85 }
set_option maxHeartbeats 4000000 in
set_option maxRecDepth 100000 in
theorem c_X2n_versionOf (l : Launch) (D : va_G) (ci ad : Nat → Nat) (kc : Nat → Int32) (kh : Nat → Int32) (ks : Nat → Int32) (fo : Nat → Nat → Int32) (kl : Nat → Int32) (kp : Nat → Int32) (dy : Int32) (mo : Int32) (n : Nat) (pa : Nat → Nat) (aE : Nat) (qp : Nat → Int32) (qm : Nat → Int32) (ql : Nat → Int32) (qv : Nat → Int32) (qc : Nat → Int32) (qe : Nat → Int32) (mt : Nat → Int32) (mv : Nat → Int32) (sw : Nat → Int32) (hv : Int32) (tk : Nat → Int32) (tn : Nat → Int32) (sc : Nat → Int32) (p0 : Int32)  (hRn : pf_X2n_versionOf n qv p0 ≠ none) (sz : Nat) : Met l yX2_versionOf wsX2_versionOf rmX2n_versionOf (va_Pc [.ref (ad 0), .int p0] (kv_pre D ci (kv_kw ci ad kc kh ks fo kl kp dy mo n pa aE qp qm ql qv qc qe mt mv sw hv tk tn sc) sz)) (va_Qi (fun (r : Int32) (u : Unit) => pf_X2n_versionOf n qv p0 = some (r)) (fun u t => kv_post D (kv_kw ci ad kc kh ks fo kl kp dy mo n pa aE qp qm ql qv qc qe mt mv sw hv tk tn sc) sz (kv_kw ci ad kc kh ks fo kl kp dy mo n pa aE qp qm ql qv qc qe mt mv sw hv tk tn sc) t) (va_A (kv_kw ci ad kc kh ks fo kl kp dy mo n pa aE qp qm ql qv qc qe mt mv sw hv tk tn sc) sz)) 0 0 (va_A (kv_kw ci ad kc kh ks fo kl kp dy mo n pa aE qp qm ql qv qc qe mt mv sw hv tk tn sc) sz) := by
  refine Met.ofW (cc := cX2_versionOf) (maxL := 2) (ret := (some .int)) (by decide) rfl ?_
  intro p en s m args below meth c s₁ B hml hv
  obtain ⟨hv0, hsz, hP, hK, hD0⟩ := hv
  have hx := B.exec
  have hb := B.bytes
  have hr := B.returns
  have hts := atoms_spec (ws := wsX2_versionOf) B.pre
  have hown : s.vm.findClass RX2 = some m.cls := findClass_of_methodNamed B.named
  have hlocks := B.notSynchronized
  subst hsz
  have hD := hD0.self (sz := s.heap.size)
  generalize hAe : va_A (kv_kw ci ad kc kh ks fo kl kp dy mo n pa aE qp qm ql qv qc qe mt mv sw hv tk tn sc) s.heap.size = A at hD ⊢
  have hA : ∀ q : Nat, s.heap.size ≤ q → A q := fun q h => by rw [← hAe]; exact Or.inr h
  have hS : va_S A s.heap s.heap [] := va_S.rf
  have hP : va_P D vwCl (kv_kw ci ad kc kh ks fo kl kp dy mo n pa aE qp qm ql qv qc qe mt mv sw hv tk tn sc) s.heap := hP
  have hinRX1 : ∀ w ∈ u_ws RX1 TX1 6, w ∈ wsX2_versionOf := by decide +kernel
  generalize hRd : pf_X2n_versionOf n qv p0 = Rz at hRn
  have hRz := hRn
  refine kv_Q (fun Q hQ => ?_)
  refine W.eq (show entryFrame m args 2 = _ from by rw [hv0, lg_entry_eq]) ?_
  have hl := lv_entry ([.ref (ad 0), .int p0]) (n := 2) (Nat.le_of_ble_eq_true rfl)
  generalize (lg_sl ([.ref (ad 0), .int p0]) ++ List.replicate (2 - (lg_sl ([.ref (ad 0), .int p0])).length) Slot.unset).toArray = ls at hl ⊢
  have hl : lv_has ls 2 [(0, .ref (ad 0)), (1, .int p0)] := hl
  have e : Rz = pf_X2n_versionOf n qv p0 := hRd.symm
  rw [pf_X2n_versionOf] at e
  refine lv_aload_n hx hb dX2_versionOf_0 rfl (lv_at hl 0 rfl) ?_
  refine lv_iload_n hx hb dX2_versionOf_1 rfl (lv_at hl 1 rfl) ?_
  refine kv_callq (pa := pa) (n := n) (va_runV (As := [.int p0]) (rest := []) ⟨hx, hb, hml, hown, hts⟩ (c_X2n_rightAt l D ci ad kc kh ks fo kl kp dy mo n pa aE qp qm ql qv qc qe mt mv sw hv tk tn sc p0 (kv_q1_n e hRz) s.heap.size) (cwV 1 hts gX2_versionOf_X2_rightAt rfl rfl rfl (by decide +kernel) ⟨Nat.le_of_ble_eq_true rfl, Nat.le_of_ble_eq_true rfl⟩) (kv_preV hK hP hD (r := (RX2, TX2, 9)) (q0 := 0) (k := 3) rfl rfl rfl) rfl rfl hl.1 rfl (lv_room (Nat.le_of_ble_eq_true rfl)) dX2_versionOf_2 ⟨Nat.le_of_ble_eq_true rfl, Nat.le_of_ble_eq_true rfl⟩) hD hS hA (fun k_2 H locs hk_2 hw_2 hP hD hS => ?_)
  have e := kv_q1_e e hw_2
  refine va_get (D := D) (ci := 2) (v := .int (qv k_2)) (C := RX1) (T := TX1) (N := 6) hx hb hts hinRX1 hown hK hP (24 + k_2) (kv_rt hk_2) rfl 3 (by decide) (hts (.fieldLink RX2 89 "LicenceKeeper$Right" "version" "I") (by decide +kernel)) (fun _ h9 => h9) rfl dX2_versionOf_5 ?_
  rw [hQ]
  exact W.iret (v := (qv k_2)) hx hb hr (fun t ht hW => ⟨⟨(qv k_2), (), rfl, e, ⟨by rw [ht]; exact hP, by rw [hAe]; exact hD⟩⟩, hS.F ht⟩) hS.2.2 dX2_versionOf_8

def pf_X2n_latest (kl : Nat → Int32) (p0 : Int32)  : Option (Int32) :=
  kv_q0 (pf_X2n_requireProduct p0) (kv_G p0 4 (kv_T (kl p0.toNatClampNeg) (fun y_9 => some (y_9))))
abbrev rmX2n_latest : Room := { frames := 1, cells := 0, slots := 0, locals := 20 }
set_option maxHeartbeats 4000000 in
set_option maxRecDepth 100000 in
theorem c_X2n_latest (l : Launch) (D : va_G) (ci ad : Nat → Nat) (kc : Nat → Int32) (kh : Nat → Int32) (ks : Nat → Int32) (fo : Nat → Nat → Int32) (kl : Nat → Int32) (kp : Nat → Int32) (dy : Int32) (mo : Int32) (n : Nat) (pa : Nat → Nat) (aE : Nat) (qp : Nat → Int32) (qm : Nat → Int32) (ql : Nat → Int32) (qv : Nat → Int32) (qc : Nat → Int32) (qe : Nat → Int32) (mt : Nat → Int32) (mv : Nat → Int32) (sw : Nat → Int32) (hv : Int32) (tk : Nat → Int32) (tn : Nat → Int32) (sc : Nat → Int32) (p0 : Int32)  (hRn : pf_X2n_latest kl p0 ≠ none) (sz : Nat) : Met l yX2_latest wsX2_latest rmX2n_latest (va_Pc [.ref (ad 0), .int p0] (kv_pre D ci (kv_kw ci ad kc kh ks fo kl kp dy mo n pa aE qp qm ql qv qc qe mt mv sw hv tk tn sc) sz)) (va_Qi (fun (r : Int32) (u : Unit) => pf_X2n_latest kl p0 = some (r)) (fun u t => kv_post D (kv_kw ci ad kc kh ks fo kl kp dy mo n pa aE qp qm ql qv qc qe mt mv sw hv tk tn sc) sz (kv_kw ci ad kc kh ks fo kl kp dy mo n pa aE qp qm ql qv qc qe mt mv sw hv tk tn sc) t) (va_A (kv_kw ci ad kc kh ks fo kl kp dy mo n pa aE qp qm ql qv qc qe mt mv sw hv tk tn sc) sz)) 0 0 (va_A (kv_kw ci ad kc kh ks fo kl kp dy mo n pa aE qp qm ql qv qc qe mt mv sw hv tk tn sc) sz) := by
  refine Met.ofW (cc := cX2_latest) (maxL := 2) (ret := (some .int)) (by decide) rfl ?_
  intro p en s m args below meth c s₁ B hml hv
  obtain ⟨hv0, hsz, hP, hK, hD0⟩ := hv
  have hx := B.exec
  have hb := B.bytes
  have hr := B.returns
  have hts := atoms_spec (ws := wsX2_latest) B.pre
  have hown : s.vm.findClass RX2 = some m.cls := findClass_of_methodNamed B.named
  have hlocks := B.notSynchronized
  subst hsz
  have hD := hD0.self (sz := s.heap.size)
  generalize hAe : va_A (kv_kw ci ad kc kh ks fo kl kp dy mo n pa aE qp qm ql qv qc qe mt mv sw hv tk tn sc) s.heap.size = A at hD ⊢
  have hA : ∀ q : Nat, s.heap.size ≤ q → A q := fun q h => by rw [← hAe]; exact Or.inr h
  have hS : va_S A s.heap s.heap [] := va_S.rf
  have hP : va_P D vwCl (kv_kw ci ad kc kh ks fo kl kp dy mo n pa aE qp qm ql qv qc qe mt mv sw hv tk tn sc) s.heap := hP
  have hinRX2 : ∀ w ∈ u_ws RX2 TX2 9, w ∈ wsX2_latest := by decide +kernel
  generalize hRd : pf_X2n_latest kl p0 = Rz at hRn
  have hRz := hRn
  refine kv_Q (fun Q hQ => ?_)
  refine W.eq (show entryFrame m args 2 = _ from by rw [hv0, lg_entry_eq]) ?_
  have hl := lv_entry ([.ref (ad 0), .int p0]) (n := 2) (Nat.le_of_ble_eq_true rfl)
  generalize (lg_sl ([.ref (ad 0), .int p0]) ++ List.replicate (2 - (lg_sl ([.ref (ad 0), .int p0])).length) Slot.unset).toArray = ls at hl ⊢
  have hl : lv_has ls 2 [(0, .ref (ad 0)), (1, .int p0)] := hl
  have e : Rz = pf_X2n_latest kl p0 := hRd.symm
  rw [pf_X2n_latest] at e
  refine lv_iload_n hx hb dX2_latest_0 rfl (lv_at hl 1 rfl) ?_
  refine kv_callv (va_runS (As := [.int p0]) (rest := []) ⟨hx, hb, hml, hown, hts⟩ (c_X2n_requireProduct l D ci ad kc kh ks fo kl kp dy mo n pa aE qp qm ql qv qc qe mt mv sw hv tk tn sc p0 (kv_q0_n e hRz) s.heap.size) (va_cwS 1 hts gX2_latest_X2_requireProduct rfl rfl rfl (by decide +kernel) ⟨Nat.le_of_ble_eq_true rfl, Nat.le_of_ble_eq_true rfl⟩) (kv_preS hK hP hD) rfl rfl hl.1 rfl (lv_room (Nat.le_of_ble_eq_true rfl)) dX2_latest_1 ⟨Nat.le_of_ble_eq_true rfl, Nat.le_of_ble_eq_true rfl⟩) hD hS hA (fun u_1 H locs hw_1 hP hD hS => ?_)
  have e := kv_q0_e e hw_1
  refine lv_aload_n hx hb dX2_latest_4 rfl (lv_at hl 0 rfl) ?_
  refine va_get (D := D) (ci := 3) (v := .ref (ad 5)) (C := RX2) (T := TX2) (N := 9) hx hb hts hinRX2 hown hK hP 0 rfl rfl 4 (by decide) (hts (.fieldLink RX2 24 "LicenceKeeper" "latestVersions" "[I") (by decide +kernel)) (fun _ h9 => h9) rfl dX2_latest_5 ?_
  refine lv_iload_n hx hb dX2_latest_8 rfl (lv_at hl 1 rfl) ?_
  obtain ⟨hi_9, e⟩ := kv_G_e e hRz
  refine kv_iald hx hb hK hP 5 0 hi_9 dX2_latest_9 rfl rfl (fun y_9 ey_9 => ?_)
  have e := kv_T_e e ey_9
  rw [hQ]
  exact W.iret (v := y_9) hx hb hr (fun t ht hW => ⟨⟨y_9, (), rfl, e, ⟨by rw [ht]; exact hP, by rw [hAe]; exact hD⟩⟩, hS.F ht⟩) hS.2.2 dX2_latest_10

def pf_X2n_hostOf (kh : Nat → Int32) (p0 : Int32)  : Option (Int32) :=
  kv_q0 (pf_X2n_requireMachine p0) (kv_G p0 8 (kv_T (kh p0.toNatClampNeg) (fun y_9 => some (y_9))))
abbrev rmX2n_hostOf : Room := { frames := 1, cells := 0, slots := 0, locals := 20 }
set_option maxHeartbeats 4000000 in
set_option maxRecDepth 100000 in
theorem c_X2n_hostOf (l : Launch) (D : va_G) (ci ad : Nat → Nat) (kc : Nat → Int32) (kh : Nat → Int32) (ks : Nat → Int32) (fo : Nat → Nat → Int32) (kl : Nat → Int32) (kp : Nat → Int32) (dy : Int32) (mo : Int32) (n : Nat) (pa : Nat → Nat) (aE : Nat) (qp : Nat → Int32) (qm : Nat → Int32) (ql : Nat → Int32) (qv : Nat → Int32) (qc : Nat → Int32) (qe : Nat → Int32) (mt : Nat → Int32) (mv : Nat → Int32) (sw : Nat → Int32) (hv : Int32) (tk : Nat → Int32) (tn : Nat → Int32) (sc : Nat → Int32) (p0 : Int32)  (hRn : pf_X2n_hostOf kh p0 ≠ none) (sz : Nat) : Met l yX2_hostOf wsX2_hostOf rmX2n_hostOf (va_Pc [.ref (ad 0), .int p0] (kv_pre D ci (kv_kw ci ad kc kh ks fo kl kp dy mo n pa aE qp qm ql qv qc qe mt mv sw hv tk tn sc) sz)) (va_Qi (fun (r : Int32) (u : Unit) => pf_X2n_hostOf kh p0 = some (r)) (fun u t => kv_post D (kv_kw ci ad kc kh ks fo kl kp dy mo n pa aE qp qm ql qv qc qe mt mv sw hv tk tn sc) sz (kv_kw ci ad kc kh ks fo kl kp dy mo n pa aE qp qm ql qv qc qe mt mv sw hv tk tn sc) t) (va_A (kv_kw ci ad kc kh ks fo kl kp dy mo n pa aE qp qm ql qv qc qe mt mv sw hv tk tn sc) sz)) 0 0 (va_A (kv_kw ci ad kc kh ks fo kl kp dy mo n pa aE qp qm ql qv qc qe mt mv sw hv tk tn sc) sz) := by
  refine Met.ofW (cc := cX2_hostOf) (maxL := 2) (ret := (some .int)) (by decide) rfl ?_
  intro p en s m args below meth c s₁ B hml hv
  obtain ⟨hv0, hsz, hP, hK, hD0⟩ := hv
  have hx := B.exec
  have hb := B.bytes
  have hr := B.returns
  have hts := atoms_spec (ws := wsX2_hostOf) B.pre
  have hown : s.vm.findClass RX2 = some m.cls := findClass_of_methodNamed B.named
  have hlocks := B.notSynchronized
  subst hsz
  have hD := hD0.self (sz := s.heap.size)
  generalize hAe : va_A (kv_kw ci ad kc kh ks fo kl kp dy mo n pa aE qp qm ql qv qc qe mt mv sw hv tk tn sc) s.heap.size = A at hD ⊢
  have hA : ∀ q : Nat, s.heap.size ≤ q → A q := fun q h => by rw [← hAe]; exact Or.inr h
  have hS : va_S A s.heap s.heap [] := va_S.rf
  have hP : va_P D vwCl (kv_kw ci ad kc kh ks fo kl kp dy mo n pa aE qp qm ql qv qc qe mt mv sw hv tk tn sc) s.heap := hP
  have hinRX2 : ∀ w ∈ u_ws RX2 TX2 9, w ∈ wsX2_hostOf := by decide +kernel
  generalize hRd : pf_X2n_hostOf kh p0 = Rz at hRn
  have hRz := hRn
  refine kv_Q (fun Q hQ => ?_)
  refine W.eq (show entryFrame m args 2 = _ from by rw [hv0, lg_entry_eq]) ?_
  have hl := lv_entry ([.ref (ad 0), .int p0]) (n := 2) (Nat.le_of_ble_eq_true rfl)
  generalize (lg_sl ([.ref (ad 0), .int p0]) ++ List.replicate (2 - (lg_sl ([.ref (ad 0), .int p0])).length) Slot.unset).toArray = ls at hl ⊢
  have hl : lv_has ls 2 [(0, .ref (ad 0)), (1, .int p0)] := hl
  have e : Rz = pf_X2n_hostOf kh p0 := hRd.symm
  rw [pf_X2n_hostOf] at e
  refine lv_iload_n hx hb dX2_hostOf_0 rfl (lv_at hl 1 rfl) ?_
  refine kv_callv (va_runS (As := [.int p0]) (rest := []) ⟨hx, hb, hml, hown, hts⟩ (c_X2n_requireMachine l D ci ad kc kh ks fo kl kp dy mo n pa aE qp qm ql qv qc qe mt mv sw hv tk tn sc p0 (kv_q0_n e hRz) s.heap.size) (va_cwS 1 hts gX2_hostOf_X2_requireMachine rfl rfl rfl (by decide +kernel) ⟨Nat.le_of_ble_eq_true rfl, Nat.le_of_ble_eq_true rfl⟩) (kv_preS hK hP hD) rfl rfl hl.1 rfl (lv_room (Nat.le_of_ble_eq_true rfl)) dX2_hostOf_1 ⟨Nat.le_of_ble_eq_true rfl, Nat.le_of_ble_eq_true rfl⟩) hD hS hA (fun u_1 H locs hw_1 hP hD hS => ?_)
  have e := kv_q0_e e hw_1
  refine lv_aload_n hx hb dX2_hostOf_4 rfl (lv_at hl 0 rfl) ?_
  refine va_get (D := D) (ci := 3) (v := .ref (ad 2)) (C := RX2) (T := TX2) (N := 9) hx hb hts hinRX2 hown hK hP 0 rfl rfl 1 (by decide) (hts (.fieldLink RX2 13 "LicenceKeeper" "hosts" "[I") (by decide +kernel)) (fun _ h9 => h9) rfl dX2_hostOf_5 ?_
  refine lv_iload_n hx hb dX2_hostOf_8 rfl (lv_at hl 1 rfl) ?_
  obtain ⟨hi_9, e⟩ := kv_G_e e hRz
  refine kv_iald hx hb hK hP 2 0 hi_9 dX2_hostOf_9 rfl rfl (fun y_9 ey_9 => ?_)
  have e := kv_T_e e ey_9
  rw [hQ]
  exact W.iret (v := y_9) hx hb hr (fun t ht hW => ⟨⟨y_9, (), rfl, e, ⟨by rw [ht]; exact hP, by rw [hAe]; exact hD⟩⟩, hS.F ht⟩) hS.2.2 dX2_hostOf_10

def pf_X2n_weight (kc : Nat → Int32) (fo : Nat → Nat → Int32) (kp : Nat → Int32) (p0 : Int32) (p1 : Int32)  : Option (Int32) :=
  kv_q0 (pf_X2n_requireMachine p0) (kv_q0 (pf_X2n_requireProduct p1) (kv_q1 (pf_X2_weightOn kc fo kp p0 p1) (fun r_11 => some (r_11))))
abbrev rmX2n_weight : Room := { frames := 1, cells := 0, slots := 0, locals := 22 }
set_option maxHeartbeats 4000000 in
set_option maxRecDepth 100000 in
theorem c_X2n_weight (l : Launch) (D : va_G) (ci ad : Nat → Nat) (kc : Nat → Int32) (kh : Nat → Int32) (ks : Nat → Int32) (fo : Nat → Nat → Int32) (kl : Nat → Int32) (kp : Nat → Int32) (dy : Int32) (mo : Int32) (n : Nat) (pa : Nat → Nat) (aE : Nat) (qp : Nat → Int32) (qm : Nat → Int32) (ql : Nat → Int32) (qv : Nat → Int32) (qc : Nat → Int32) (qe : Nat → Int32) (mt : Nat → Int32) (mv : Nat → Int32) (sw : Nat → Int32) (hv : Int32) (tk : Nat → Int32) (tn : Nat → Int32) (sc : Nat → Int32) (p0 : Int32) (p1 : Int32)  (hRn : pf_X2n_weight kc fo kp p0 p1 ≠ none) (sz : Nat) : Met l yX2_weight wsX2_weight rmX2n_weight (va_Pc [.ref (ad 0), .int p0, .int p1] (kv_pre D ci (kv_kw ci ad kc kh ks fo kl kp dy mo n pa aE qp qm ql qv qc qe mt mv sw hv tk tn sc) sz)) (va_Qi (fun (r : Int32) (u : Unit) => pf_X2n_weight kc fo kp p0 p1 = some (r)) (fun u t => kv_post D (kv_kw ci ad kc kh ks fo kl kp dy mo n pa aE qp qm ql qv qc qe mt mv sw hv tk tn sc) sz (kv_kw ci ad kc kh ks fo kl kp dy mo n pa aE qp qm ql qv qc qe mt mv sw hv tk tn sc) t) (va_A (kv_kw ci ad kc kh ks fo kl kp dy mo n pa aE qp qm ql qv qc qe mt mv sw hv tk tn sc) sz)) 0 0 (va_A (kv_kw ci ad kc kh ks fo kl kp dy mo n pa aE qp qm ql qv qc qe mt mv sw hv tk tn sc) sz) := by
  refine Met.ofW (cc := cX2_weight) (maxL := 3) (ret := (some .int)) (by decide) rfl ?_
  intro p en s m args below meth c s₁ B hml hv
  obtain ⟨hv0, hsz, hP, hK, hD0⟩ := hv
  have hx := B.exec
  have hb := B.bytes
  have hr := B.returns
  have hts := atoms_spec (ws := wsX2_weight) B.pre
  have hown : s.vm.findClass RX2 = some m.cls := findClass_of_methodNamed B.named
  have hlocks := B.notSynchronized
  subst hsz
  have hD := hD0.self (sz := s.heap.size)
  generalize hAe : va_A (kv_kw ci ad kc kh ks fo kl kp dy mo n pa aE qp qm ql qv qc qe mt mv sw hv tk tn sc) s.heap.size = A at hD ⊢
  have hA : ∀ q : Nat, s.heap.size ≤ q → A q := fun q h => by rw [← hAe]; exact Or.inr h
  have hS : va_S A s.heap s.heap [] := va_S.rf
  have hP : va_P D vwCl (kv_kw ci ad kc kh ks fo kl kp dy mo n pa aE qp qm ql qv qc qe mt mv sw hv tk tn sc) s.heap := hP
  generalize hRd : pf_X2n_weight kc fo kp p0 p1 = Rz at hRn
  have hRz := hRn
  refine kv_Q (fun Q hQ => ?_)
  refine W.eq (show entryFrame m args 3 = _ from by rw [hv0, lg_entry_eq]) ?_
  have hl := lv_entry ([.ref (ad 0), .int p0, .int p1]) (n := 3) (Nat.le_of_ble_eq_true rfl)
  generalize (lg_sl ([.ref (ad 0), .int p0, .int p1]) ++ List.replicate (3 - (lg_sl ([.ref (ad 0), .int p0, .int p1])).length) Slot.unset).toArray = ls at hl ⊢
  have hl : lv_has ls 3 [(0, .ref (ad 0)), (1, .int p0), (2, .int p1)] := hl
  have e : Rz = pf_X2n_weight kc fo kp p0 p1 := hRd.symm
  rw [pf_X2n_weight] at e
  refine lv_iload_n hx hb dX2_weight_0 rfl (lv_at hl 1 rfl) ?_
  refine kv_callv (va_runS (As := [.int p0]) (rest := []) ⟨hx, hb, hml, hown, hts⟩ (c_X2n_requireMachine l D ci ad kc kh ks fo kl kp dy mo n pa aE qp qm ql qv qc qe mt mv sw hv tk tn sc p0 (kv_q0_n e hRz) s.heap.size) (va_cwS 1 hts gX2_weight_X2_requireMachine rfl rfl rfl (by decide +kernel) ⟨Nat.le_of_ble_eq_true rfl, Nat.le_of_ble_eq_true rfl⟩) (kv_preS hK hP hD) rfl rfl hl.1 rfl (lv_room (Nat.le_of_ble_eq_true rfl)) dX2_weight_1 ⟨Nat.le_of_ble_eq_true rfl, Nat.le_of_ble_eq_true rfl⟩) hD hS hA (fun u_1 H locs hw_1 hP hD hS => ?_)
  have e := kv_q0_e e hw_1
  refine lv_iload_n hx hb dX2_weight_4 rfl (lv_at hl 2 rfl) ?_
  refine kv_callv (va_runS (As := [.int p1]) (rest := []) ⟨hx, hb, hml, hown, hts⟩ (c_X2n_requireProduct l D ci ad kc kh ks fo kl kp dy mo n pa aE qp qm ql qv qc qe mt mv sw hv tk tn sc p1 (kv_q0_n e hRz) H.size) (va_cwS 1 hts gX2_weight_X2_requireProduct rfl rfl rfl (by decide +kernel) ⟨Nat.le_of_ble_eq_true rfl, Nat.le_of_ble_eq_true rfl⟩) (kv_preS hK hP hD) rfl rfl hl.1 rfl (lv_room (Nat.le_of_ble_eq_true rfl)) dX2_weight_5 ⟨Nat.le_of_ble_eq_true rfl, Nat.le_of_ble_eq_true rfl⟩) hD hS hA (fun u_5 H locs hw_5 hP hD hS => ?_)
  have e := kv_q0_e e hw_5
  refine lv_aload_n hx hb dX2_weight_8 rfl (lv_at hl 0 rfl) ?_
  refine lv_iload_n hx hb dX2_weight_9 rfl (lv_at hl 1 rfl) ?_
  refine lv_iload_n hx hb dX2_weight_10 rfl (lv_at hl 2 rfl) ?_
  refine kv_calli (va_runV (As := [.int p0, .int p1]) (rest := []) ⟨hx, hb, hml, hown, hts⟩ (c_X2_weightOn l D ci ad kc kh ks fo kl kp dy mo n pa aE qp qm ql qv qc qe mt mv sw hv tk tn sc p0 p1 (kv_q1_n e hRz) H.size) (cwV 2 hts gX2_weight_X2_weightOn rfl rfl rfl (by decide +kernel) ⟨Nat.le_of_ble_eq_true rfl, Nat.le_of_ble_eq_true rfl⟩) (kv_preV hK hP hD (r := (RX2, TX2, 9)) (q0 := 0) (k := 3) rfl rfl rfl) rfl rfl hl.1 rfl (lv_room (Nat.le_of_ble_eq_true rfl)) dX2_weight_11 ⟨Nat.le_of_ble_eq_true rfl, Nat.le_of_ble_eq_true rfl⟩) hD hS hA (fun r_11 u_11 H locs hw_11 hP hD hS => ?_)
  have e := kv_q1_e e hw_11
  rw [hQ]
  exact W.iret (v := r_11) hx hb hr (fun t ht hW => ⟨⟨r_11, (), rfl, e, ⟨by rw [ht]; exact hP, by rw [hAe]; exact hD⟩⟩, hS.F ht⟩) hS.2.2 dX2_weight_14

def pf_X2n_covers (kh : Nat → Int32) (fo : Nat → Nat → Int32) (n : Nat) (qp : Nat → Int32) (qm : Nat → Int32) (qv : Nat → Int32) (p0 : Int32) (p1 : Int32)  : Option (Int32) :=
  kv_q1 (pf_X2n_rightAt n p0) (fun k_2 => kv_q0 (pf_X2n_requireMachine p1) (kv_q1 (pf_X2_coverOn fo n qp qm qv k_2 p1 kh) (fun r_17 => some (r_17))))
abbrev rmX2n_covers : Room := { frames := 4, cells := 0, slots := 0, locals := 85 }
set_option maxHeartbeats 4000000 in
set_option maxRecDepth 100000 in
theorem c_X2n_covers (l : Launch) (D : va_G) (ci ad : Nat → Nat) (kc : Nat → Int32) (kh : Nat → Int32) (ks : Nat → Int32) (fo : Nat → Nat → Int32) (kl : Nat → Int32) (kp : Nat → Int32) (dy : Int32) (mo : Int32) (n : Nat) (pa : Nat → Nat) (aE : Nat) (qp : Nat → Int32) (qm : Nat → Int32) (ql : Nat → Int32) (qv : Nat → Int32) (qc : Nat → Int32) (qe : Nat → Int32) (mt : Nat → Int32) (mv : Nat → Int32) (sw : Nat → Int32) (hv : Int32) (tk : Nat → Int32) (tn : Nat → Int32) (sc : Nat → Int32) (p0 : Int32) (p1 : Int32)  (hRn : pf_X2n_covers kh fo n qp qm qv p0 p1 ≠ none) (sz : Nat) : Met l yX2_covers wsX2_covers rmX2n_covers (va_Pc [.ref (ad 0), .int p0, .int p1] (kv_pre D ci (kv_kw ci ad kc kh ks fo kl kp dy mo n pa aE qp qm ql qv qc qe mt mv sw hv tk tn sc) sz)) (va_Qi (fun (r : Int32) (u : Unit) => pf_X2n_covers kh fo n qp qm qv p0 p1 = some (r)) (fun u t => kv_post D (kv_kw ci ad kc kh ks fo kl kp dy mo n pa aE qp qm ql qv qc qe mt mv sw hv tk tn sc) sz (kv_kw ci ad kc kh ks fo kl kp dy mo n pa aE qp qm ql qv qc qe mt mv sw hv tk tn sc) t) (va_A (kv_kw ci ad kc kh ks fo kl kp dy mo n pa aE qp qm ql qv qc qe mt mv sw hv tk tn sc) sz)) 0 0 (va_A (kv_kw ci ad kc kh ks fo kl kp dy mo n pa aE qp qm ql qv qc qe mt mv sw hv tk tn sc) sz) := by
  refine Met.ofW (cc := cX2_covers) (maxL := 4) (ret := (some .int)) (by decide) rfl ?_
  intro p en s m args below meth c s₁ B hml hv
  obtain ⟨hv0, hsz, hP, hK, hD0⟩ := hv
  have hx := B.exec
  have hb := B.bytes
  have hr := B.returns
  have hts := atoms_spec (ws := wsX2_covers) B.pre
  have hown : s.vm.findClass RX2 = some m.cls := findClass_of_methodNamed B.named
  have hlocks := B.notSynchronized
  subst hsz
  have hD := hD0.self (sz := s.heap.size)
  generalize hAe : va_A (kv_kw ci ad kc kh ks fo kl kp dy mo n pa aE qp qm ql qv qc qe mt mv sw hv tk tn sc) s.heap.size = A at hD ⊢
  have hA : ∀ q : Nat, s.heap.size ≤ q → A q := fun q h => by rw [← hAe]; exact Or.inr h
  have hS : va_S A s.heap s.heap [] := va_S.rf
  have hP : va_P D vwCl (kv_kw ci ad kc kh ks fo kl kp dy mo n pa aE qp qm ql qv qc qe mt mv sw hv tk tn sc) s.heap := hP
  have hinRX2 : ∀ w ∈ u_ws RX2 TX2 9, w ∈ wsX2_covers := by decide +kernel
  generalize hRd : pf_X2n_covers kh fo n qp qm qv p0 p1 = Rz at hRn
  have hRz := hRn
  refine kv_Q (fun Q hQ => ?_)
  refine W.eq (show entryFrame m args 4 = _ from by rw [hv0, lg_entry_eq]) ?_
  have hl := lv_entry ([.ref (ad 0), .int p0, .int p1]) (n := 4) (Nat.le_of_ble_eq_true rfl)
  generalize (lg_sl ([.ref (ad 0), .int p0, .int p1]) ++ List.replicate (4 - (lg_sl ([.ref (ad 0), .int p0, .int p1])).length) Slot.unset).toArray = ls at hl ⊢
  have hl : lv_has ls 4 [(0, .ref (ad 0)), (1, .int p0), (2, .int p1)] := hl
  have e : Rz = pf_X2n_covers kh fo n qp qm qv p0 p1 := hRd.symm
  rw [pf_X2n_covers] at e
  refine lv_aload_n hx hb dX2_covers_0 rfl (lv_at hl 0 rfl) ?_
  refine lv_iload_n hx hb dX2_covers_1 rfl (lv_at hl 1 rfl) ?_
  refine kv_callq (pa := pa) (n := n) (va_runV (As := [.int p0]) (rest := []) ⟨hx, hb, hml, hown, hts⟩ (c_X2n_rightAt l D ci ad kc kh ks fo kl kp dy mo n pa aE qp qm ql qv qc qe mt mv sw hv tk tn sc p0 (kv_q1_n e hRz) s.heap.size) (cwV 1 hts gX2_covers_X2_rightAt rfl rfl rfl (by decide +kernel) ⟨Nat.le_of_ble_eq_true rfl, Nat.le_of_ble_eq_true rfl⟩) (kv_preV hK hP hD (r := (RX2, TX2, 9)) (q0 := 0) (k := 3) rfl rfl rfl) rfl rfl hl.1 rfl (lv_room (Nat.le_of_ble_eq_true rfl)) dX2_covers_2 ⟨Nat.le_of_ble_eq_true rfl, Nat.le_of_ble_eq_true rfl⟩) hD hS hA (fun k_2 H locs hk_2 hw_2 hP hD hS => ?_)
  have e := kv_q1_e e hw_2
  refine lv_astore_n (lv' := [(3, .ref (pa k_2)), (0, .ref (ad 0)), (1, .int p0), (2, .int p1)]) hx hb dX2_covers_5 rfl hl (by decide) rfl (fun ls hl => ?_)
  refine lv_iload_n hx hb dX2_covers_6 rfl (lv_at hl 3 rfl) ?_
  refine kv_callv (va_runS (As := [.int p1]) (rest := []) ⟨hx, hb, hml, hown, hts⟩ (c_X2n_requireMachine l D ci ad kc kh ks fo kl kp dy mo n pa aE qp qm ql qv qc qe mt mv sw hv tk tn sc p1 (kv_q0_n e hRz) H.size) (va_cwS 1 hts gX2_covers_X2_requireMachine rfl rfl rfl (by decide +kernel) ⟨Nat.le_of_ble_eq_true rfl, Nat.le_of_ble_eq_true rfl⟩) (kv_preS hK hP hD) rfl rfl hl.1 rfl (lv_room (Nat.le_of_ble_eq_true rfl)) dX2_covers_7 ⟨Nat.le_of_ble_eq_true rfl, Nat.le_of_ble_eq_true rfl⟩) hD hS hA (fun u_7 H locs hw_7 hP hD hS => ?_)
  have e := kv_q0_e e hw_7
  refine lv_aload_n hx hb dX2_covers_10 rfl (lv_at hl 1 rfl) ?_
  refine lv_aload_n hx hb dX2_covers_11 rfl (lv_at hl 0 rfl) ?_
  refine lv_iload_n hx hb dX2_covers_12 rfl (lv_at hl 3 rfl) ?_
  refine lv_aload_n hx hb dX2_covers_13 rfl (lv_at hl 1 rfl) ?_
  refine va_get (D := D) (ci := 3) (v := .ref (ad 2)) (C := RX2) (T := TX2) (N := 9) hx hb hts hinRX2 hown hK hP 0 rfl rfl 1 (by decide) (hts (.fieldLink RX2 13 "LicenceKeeper" "hosts" "[I") (by decide +kernel)) (fun _ h9 => h9) rfl dX2_covers_14 ?_
  refine kv_calli (va_runV (As := [.ref (pa k_2), .int p1, .ref (ad 2)]) (rest := []) ⟨hx, hb, hml, hown, hts⟩ (c_X2_coverOn l D ci ad kc kh ks fo kl kp dy mo n pa aE qp qm ql qv qc qe mt mv sw hv tk tn sc k_2 p1 kh hk_2 (ad 2) 2 (fun _ _ _ _ _ _ _ => rfl) (kv_q1_n e hRz) H.size) (cwV 3 hts gX2_covers_X2_coverOn rfl rfl rfl (by decide +kernel) ⟨Nat.le_of_ble_eq_true rfl, Nat.le_of_ble_eq_true rfl⟩) (kv_preV hK hP hD (r := (RX2, TX2, 9)) (q0 := 0) (k := 3) rfl rfl rfl) rfl rfl hl.1 rfl (lv_room (Nat.le_of_ble_eq_true rfl)) dX2_covers_17 ⟨Nat.le_of_ble_eq_true rfl, Nat.le_of_ble_eq_true rfl⟩) hD hS hA (fun r_17 u_17 H locs hw_17 hP hD hS => ?_)
  have e := kv_q1_e e hw_17
  rw [hQ]
  exact W.iret (v := r_17) hx hb hr (fun t ht hW => ⟨⟨r_17, (), rfl, e, ⟨by rw [ht]; exact hP, by rw [hAe]; exact hD⟩⟩, hS.F ht⟩) hS.2.2 dX2_covers_20

def pf_X2n_gap (kc : Nat → Int32) (kh : Nat → Int32) (fo : Nat → Nat → Int32) (kp : Nat → Int32) (n : Nat) (qp : Nat → Int32) (qm : Nat → Int32) (qv : Nat → Int32) (qc : Nat → Int32) (p0 : Int32) (mt : Nat → Int32) (mv : Nat → Int32) (sw : Nat → Int32) (hv : Int32) (tk : Nat → Int32) : Option (Int32 × (Nat → Int32) × (Nat → Int32) × (Nat → Int32) × Int32 × (Nat → Int32)) :=
  kv_q0 (pf_X2n_requireProduct p0) (kv_q6 (pf_X2_leastUncovered kc fo kp n qp qm qv qc p0 kh mt mv sw hv tk) (fun r_14 o0_14 o1_14 o2_14 o3_14 o4_14 => kv_q1 (pf_X0_weightOfSet o2_14 r_14) (fun r_17 => some (r_17, o0_14, o1_14, o2_14, o3_14, o4_14))))
abbrev rmX2n_gap : Room := { frames := 5, cells := 0, slots := 0, locals := 112 }
set_option maxHeartbeats 4000000 in
set_option maxRecDepth 100000 in
theorem c_X2n_gap (l : Launch) (D : va_G) (ci ad : Nat → Nat) (kc : Nat → Int32) (kh : Nat → Int32) (ks : Nat → Int32) (fo : Nat → Nat → Int32) (kl : Nat → Int32) (kp : Nat → Int32) (dy : Int32) (mo : Int32) (n : Nat) (pa : Nat → Nat) (aE : Nat) (qp : Nat → Int32) (qm : Nat → Int32) (ql : Nat → Int32) (qv : Nat → Int32) (qc : Nat → Int32) (qe : Nat → Int32) (mt : Nat → Int32) (mv : Nat → Int32) (sw : Nat → Int32) (hv : Int32) (tk : Nat → Int32) (tn : Nat → Int32) (sc : Nat → Int32) (p0 : Int32)  (hRn : pf_X2n_gap kc kh fo kp n qp qm qv qc p0 mt mv sw hv tk ≠ none) (sz : Nat) : Met l yX2_gap wsX2_gap rmX2n_gap (va_Pc [.ref (ad 0), .int p0] (kv_pre D ci (kv_kw ci ad kc kh ks fo kl kp dy mo n pa aE qp qm ql qv qc qe mt mv sw hv tk tn sc) sz)) (va_Qi (fun (r : Int32) (u : (Nat → Int32) × (Nat → Int32) × (Nat → Int32) × Int32 × (Nat → Int32)) => pf_X2n_gap kc kh fo kp n qp qm qv qc p0 mt mv sw hv tk = some (r, u)) (fun u t => kv_post D (kv_kw ci ad kc kh ks fo kl kp dy mo n pa aE qp qm ql qv qc qe mt mv sw hv tk tn sc) sz (kv_kw ci ad kc kh ks fo kl kp dy mo n pa aE qp qm ql qv qc qe u.1 u.2.1 u.2.2.1 u.2.2.2.1 u.2.2.2.2 tn sc) t) (va_A (kv_kw ci ad kc kh ks fo kl kp dy mo n pa aE qp qm ql qv qc qe mt mv sw hv tk tn sc) sz)) 0 0 (va_A (kv_kw ci ad kc kh ks fo kl kp dy mo n pa aE qp qm ql qv qc qe mt mv sw hv tk tn sc) sz) := by
  refine Met.ofW (cc := cX2_gap) (maxL := 2) (ret := (some .int)) (by decide) rfl ?_
  intro p en s m args below meth c s₁ B hml hv
  obtain ⟨hv0, hsz, hP, hK, hD0⟩ := hv
  have hx := B.exec
  have hb := B.bytes
  have hr := B.returns
  have hts := atoms_spec (ws := wsX2_gap) B.pre
  have hown : s.vm.findClass RX2 = some m.cls := findClass_of_methodNamed B.named
  have hlocks := B.notSynchronized
  subst hsz
  have hD := hD0.self (sz := s.heap.size)
  generalize hAe : va_A (kv_kw ci ad kc kh ks fo kl kp dy mo n pa aE qp qm ql qv qc qe mt mv sw hv tk tn sc) s.heap.size = A at hD ⊢
  have hA : ∀ q : Nat, s.heap.size ≤ q → A q := fun q h => by rw [← hAe]; exact Or.inr h
  have hS : va_S A s.heap s.heap [] := va_S.rf
  have hP : va_P D vwCl (kv_kw ci ad kc kh ks fo kl kp dy mo n pa aE qp qm ql qv qc qe mt mv sw hv tk tn sc) s.heap := hP
  have hinRX2 : ∀ w ∈ u_ws RX2 TX2 9, w ∈ wsX2_gap := by decide +kernel
  generalize hRd : pf_X2n_gap kc kh fo kp n qp qm qv qc p0 mt mv sw hv tk = Rz at hRn
  have hRz := hRn
  refine kv_Q (fun Q hQ => ?_)
  refine W.eq (show entryFrame m args 2 = _ from by rw [hv0, lg_entry_eq]) ?_
  have hl := lv_entry ([.ref (ad 0), .int p0]) (n := 2) (Nat.le_of_ble_eq_true rfl)
  generalize (lg_sl ([.ref (ad 0), .int p0]) ++ List.replicate (2 - (lg_sl ([.ref (ad 0), .int p0])).length) Slot.unset).toArray = ls at hl ⊢
  have hl : lv_has ls 2 [(0, .ref (ad 0)), (1, .int p0)] := hl
  have e : Rz = pf_X2n_gap kc kh fo kp n qp qm qv qc p0 mt mv sw hv tk := hRd.symm
  rw [pf_X2n_gap] at e
  refine lv_iload_n hx hb dX2_gap_0 rfl (lv_at hl 1 rfl) ?_
  refine kv_callv (va_runS (As := [.int p0]) (rest := []) ⟨hx, hb, hml, hown, hts⟩ (c_X2n_requireProduct l D ci ad kc kh ks fo kl kp dy mo n pa aE qp qm ql qv qc qe mt mv sw hv tk tn sc p0 (kv_q0_n e hRz) s.heap.size) (va_cwS 1 hts gX2_gap_X2_requireProduct rfl rfl rfl (by decide +kernel) ⟨Nat.le_of_ble_eq_true rfl, Nat.le_of_ble_eq_true rfl⟩) (kv_preS hK hP hD) rfl rfl hl.1 rfl (lv_room (Nat.le_of_ble_eq_true rfl)) dX2_gap_1 ⟨Nat.le_of_ble_eq_true rfl, Nat.le_of_ble_eq_true rfl⟩) hD hS hA (fun u_1 H locs hw_1 hP hD hS => ?_)
  have e := kv_q0_e e hw_1
  refine lv_aload_n hx hb dX2_gap_4 rfl (lv_at hl 0 rfl) ?_
  refine va_get (D := D) (ci := 3) (v := .ref (ad 8)) (C := RX2) (T := TX2) (N := 9) hx hb hts hinRX2 hown hK hP 0 rfl rfl 7 (by decide) (hts (.fieldLink RX2 40 "LicenceKeeper" "layings" "LLicenceKeeper$Layings;") (by decide +kernel)) (fun _ h9 => h9) rfl dX2_gap_5 ?_
  refine lv_aload_n hx hb dX2_gap_8 rfl (lv_at hl 0 rfl) ?_
  refine lv_iload_n hx hb dX2_gap_9 rfl (lv_at hl 1 rfl) ?_
  refine lv_aload_n hx hb dX2_gap_10 rfl (lv_at hl 0 rfl) ?_
  refine va_get (D := D) (ci := 3) (v := .ref (ad 2)) (C := RX2) (T := TX2) (N := 9) hx hb hts hinRX2 hown hK hP 0 rfl rfl 1 (by decide) (hts (.fieldLink RX2 13 "LicenceKeeper" "hosts" "[I") (by decide +kernel)) (fun _ h9 => h9) rfl dX2_gap_11 ?_
  refine kv_calli (va_runV (As := [.int p0, .ref (ad 2)]) (rest := [.ref (ad 8)]) ⟨hx, hb, hml, hown, hts⟩ (c_X2_leastUncovered l D ci ad kc kh ks fo kl kp dy mo n pa aE qp qm ql qv qc qe mt mv sw hv tk tn sc p0 kh (ad 2) 2 (fun _ _ _ _ _ _ _ => rfl) (kv_q6_n e hRz) H.size) (cwV 2 hts gX2_gap_X2_leastUncovered rfl rfl rfl (by decide +kernel) ⟨Nat.le_of_ble_eq_true rfl, Nat.le_of_ble_eq_true rfl⟩) (kv_preV hK hP hD (r := (RX2, TX2, 9)) (q0 := 0) (k := 3) rfl rfl rfl) rfl rfl hl.1 rfl (lv_room (Nat.le_of_ble_eq_true rfl)) dX2_gap_14 ⟨Nat.le_of_ble_eq_true rfl, Nat.le_of_ble_eq_true rfl⟩) hD hS hA (fun r_14 u_14 H locs hw_14 hP hD hS => ?_)
  obtain ⟨o0_14, o1_14, o2_14, o3_14, o4_14⟩ := u_14
  have e := kv_q6_e e hw_14
  have hP : va_P D vwCl (kv_kw ci ad kc kh ks fo kl kp dy mo n pa aE qp qm ql qv qc qe o0_14 o1_14 o2_14 o3_14 o4_14 tn sc) H := hP
  have hD : va_D A (kv_kw ci ad kc kh ks fo kl kp dy mo n pa aE qp qm ql qv qc qe o0_14 o1_14 o2_14 o3_14 o4_14 tn sc) := hD
  refine kv_calli (va_runV (As := [.int r_14]) (rest := []) ⟨hx, hb, hml, hown, hts⟩ (c_X0_weightOfSet l D ci ad kc kh ks fo kl kp dy mo n pa aE qp qm ql qv qc qe o0_14 o1_14 o2_14 o3_14 o4_14 tn sc r_14 (kv_q1_n e hRz) H.size) (cwV 1 hts gX2_gap_X0_weightOfSet rfl rfl rfl (by decide +kernel) ⟨Nat.le_of_ble_eq_true rfl, Nat.le_of_ble_eq_true rfl⟩) (kv_preV hK hP hD (r := (RX0, TX0, 7)) (q0 := 8) (k := 1) rfl rfl rfl) rfl rfl hl.1 rfl (lv_room (Nat.le_of_ble_eq_true rfl)) dX2_gap_17 ⟨Nat.le_of_ble_eq_true rfl, Nat.le_of_ble_eq_true rfl⟩) hD hS hA (fun r_17 u_17 H locs hw_17 hP hD hS => ?_)
  have e := kv_q1_e e hw_17
  rw [hQ]
  exact W.iret (v := r_17) hx hb hr (fun t ht hW => ⟨⟨r_17, (o0_14, o1_14, o2_14, o3_14, o4_14), rfl, e, ⟨by rw [ht]; exact hP, by rw [hAe]; exact hD⟩⟩, hS.F ht⟩) hS.2.2 dX2_gap_20

def pf_X2n_uncovered (kc : Nat → Int32) (kh : Nat → Int32) (fo : Nat → Nat → Int32) (kp : Nat → Int32) (n : Nat) (qp : Nat → Int32) (qm : Nat → Int32) (qv : Nat → Int32) (qc : Nat → Int32) (p0 : Int32) (mt : Nat → Int32) (mv : Nat → Int32) (sw : Nat → Int32) (hv : Int32) (tk : Nat → Int32) : Option (Int32 × (Nat → Int32) × (Nat → Int32) × (Nat → Int32) × Int32 × (Nat → Int32)) :=
  kv_q0 (pf_X2n_requireProduct p0) (kv_q6 (pf_X2_leastUncovered kc fo kp n qp qm qv qc p0 kh mt mv sw hv tk) (fun r_10 o0_10 o1_10 o2_10 o3_10 o4_10 => some (r_10, o0_10, o1_10, o2_10, o3_10, o4_10)))
abbrev rmX2n_uncovered : Room := { frames := 5, cells := 0, slots := 0, locals := 112 }
set_option maxHeartbeats 4000000 in
set_option maxRecDepth 100000 in
theorem c_X2n_uncovered (l : Launch) (D : va_G) (ci ad : Nat → Nat) (kc : Nat → Int32) (kh : Nat → Int32) (ks : Nat → Int32) (fo : Nat → Nat → Int32) (kl : Nat → Int32) (kp : Nat → Int32) (dy : Int32) (mo : Int32) (n : Nat) (pa : Nat → Nat) (aE : Nat) (qp : Nat → Int32) (qm : Nat → Int32) (ql : Nat → Int32) (qv : Nat → Int32) (qc : Nat → Int32) (qe : Nat → Int32) (mt : Nat → Int32) (mv : Nat → Int32) (sw : Nat → Int32) (hv : Int32) (tk : Nat → Int32) (tn : Nat → Int32) (sc : Nat → Int32) (p0 : Int32)  (hRn : pf_X2n_uncovered kc kh fo kp n qp qm qv qc p0 mt mv sw hv tk ≠ none) (sz : Nat) : Met l yX2_uncovered wsX2_uncovered rmX2n_uncovered (va_Pc [.ref (ad 0), .int p0] (kv_pre D ci (kv_kw ci ad kc kh ks fo kl kp dy mo n pa aE qp qm ql qv qc qe mt mv sw hv tk tn sc) sz)) (va_Qi (fun (r : Int32) (u : (Nat → Int32) × (Nat → Int32) × (Nat → Int32) × Int32 × (Nat → Int32)) => pf_X2n_uncovered kc kh fo kp n qp qm qv qc p0 mt mv sw hv tk = some (r, u)) (fun u t => kv_post D (kv_kw ci ad kc kh ks fo kl kp dy mo n pa aE qp qm ql qv qc qe mt mv sw hv tk tn sc) sz (kv_kw ci ad kc kh ks fo kl kp dy mo n pa aE qp qm ql qv qc qe u.1 u.2.1 u.2.2.1 u.2.2.2.1 u.2.2.2.2 tn sc) t) (va_A (kv_kw ci ad kc kh ks fo kl kp dy mo n pa aE qp qm ql qv qc qe mt mv sw hv tk tn sc) sz)) 0 0 (va_A (kv_kw ci ad kc kh ks fo kl kp dy mo n pa aE qp qm ql qv qc qe mt mv sw hv tk tn sc) sz) := by
  refine Met.ofW (cc := cX2_uncovered) (maxL := 2) (ret := (some .int)) (by decide) rfl ?_
  intro p en s m args below meth c s₁ B hml hv
  obtain ⟨hv0, hsz, hP, hK, hD0⟩ := hv
  have hx := B.exec
  have hb := B.bytes
  have hr := B.returns
  have hts := atoms_spec (ws := wsX2_uncovered) B.pre
  have hown : s.vm.findClass RX2 = some m.cls := findClass_of_methodNamed B.named
  have hlocks := B.notSynchronized
  subst hsz
  have hD := hD0.self (sz := s.heap.size)
  generalize hAe : va_A (kv_kw ci ad kc kh ks fo kl kp dy mo n pa aE qp qm ql qv qc qe mt mv sw hv tk tn sc) s.heap.size = A at hD ⊢
  have hA : ∀ q : Nat, s.heap.size ≤ q → A q := fun q h => by rw [← hAe]; exact Or.inr h
  have hS : va_S A s.heap s.heap [] := va_S.rf
  have hP : va_P D vwCl (kv_kw ci ad kc kh ks fo kl kp dy mo n pa aE qp qm ql qv qc qe mt mv sw hv tk tn sc) s.heap := hP
  have hinRX2 : ∀ w ∈ u_ws RX2 TX2 9, w ∈ wsX2_uncovered := by decide +kernel
  generalize hRd : pf_X2n_uncovered kc kh fo kp n qp qm qv qc p0 mt mv sw hv tk = Rz at hRn
  have hRz := hRn
  refine kv_Q (fun Q hQ => ?_)
  refine W.eq (show entryFrame m args 2 = _ from by rw [hv0, lg_entry_eq]) ?_
  have hl := lv_entry ([.ref (ad 0), .int p0]) (n := 2) (Nat.le_of_ble_eq_true rfl)
  generalize (lg_sl ([.ref (ad 0), .int p0]) ++ List.replicate (2 - (lg_sl ([.ref (ad 0), .int p0])).length) Slot.unset).toArray = ls at hl ⊢
  have hl : lv_has ls 2 [(0, .ref (ad 0)), (1, .int p0)] := hl
  have e : Rz = pf_X2n_uncovered kc kh fo kp n qp qm qv qc p0 mt mv sw hv tk := hRd.symm
  rw [pf_X2n_uncovered] at e
  refine lv_iload_n hx hb dX2_uncovered_0 rfl (lv_at hl 1 rfl) ?_
  refine kv_callv (va_runS (As := [.int p0]) (rest := []) ⟨hx, hb, hml, hown, hts⟩ (c_X2n_requireProduct l D ci ad kc kh ks fo kl kp dy mo n pa aE qp qm ql qv qc qe mt mv sw hv tk tn sc p0 (kv_q0_n e hRz) s.heap.size) (va_cwS 1 hts gX2_uncovered_X2_requireProduct rfl rfl rfl (by decide +kernel) ⟨Nat.le_of_ble_eq_true rfl, Nat.le_of_ble_eq_true rfl⟩) (kv_preS hK hP hD) rfl rfl hl.1 rfl (lv_room (Nat.le_of_ble_eq_true rfl)) dX2_uncovered_1 ⟨Nat.le_of_ble_eq_true rfl, Nat.le_of_ble_eq_true rfl⟩) hD hS hA (fun u_1 H locs hw_1 hP hD hS => ?_)
  have e := kv_q0_e e hw_1
  refine lv_aload_n hx hb dX2_uncovered_4 rfl (lv_at hl 0 rfl) ?_
  refine lv_iload_n hx hb dX2_uncovered_5 rfl (lv_at hl 1 rfl) ?_
  refine lv_aload_n hx hb dX2_uncovered_6 rfl (lv_at hl 0 rfl) ?_
  refine va_get (D := D) (ci := 3) (v := .ref (ad 2)) (C := RX2) (T := TX2) (N := 9) hx hb hts hinRX2 hown hK hP 0 rfl rfl 1 (by decide) (hts (.fieldLink RX2 13 "LicenceKeeper" "hosts" "[I") (by decide +kernel)) (fun _ h9 => h9) rfl dX2_uncovered_7 ?_
  refine kv_calli (va_runV (As := [.int p0, .ref (ad 2)]) (rest := []) ⟨hx, hb, hml, hown, hts⟩ (c_X2_leastUncovered l D ci ad kc kh ks fo kl kp dy mo n pa aE qp qm ql qv qc qe mt mv sw hv tk tn sc p0 kh (ad 2) 2 (fun _ _ _ _ _ _ _ => rfl) (kv_q6_n e hRz) H.size) (cwV 2 hts gX2_uncovered_X2_leastUncovered rfl rfl rfl (by decide +kernel) ⟨Nat.le_of_ble_eq_true rfl, Nat.le_of_ble_eq_true rfl⟩) (kv_preV hK hP hD (r := (RX2, TX2, 9)) (q0 := 0) (k := 3) rfl rfl rfl) rfl rfl hl.1 rfl (lv_room (Nat.le_of_ble_eq_true rfl)) dX2_uncovered_10 ⟨Nat.le_of_ble_eq_true rfl, Nat.le_of_ble_eq_true rfl⟩) hD hS hA (fun r_10 u_10 H locs hw_10 hP hD hS => ?_)
  obtain ⟨o0_10, o1_10, o2_10, o3_10, o4_10⟩ := u_10
  have e := kv_q6_e e hw_10
  have hP : va_P D vwCl (kv_kw ci ad kc kh ks fo kl kp dy mo n pa aE qp qm ql qv qc qe o0_10 o1_10 o2_10 o3_10 o4_10 tn sc) H := hP
  have hD : va_D A (kv_kw ci ad kc kh ks fo kl kp dy mo n pa aE qp qm ql qv qc qe o0_10 o1_10 o2_10 o3_10 o4_10 tn sc) := hD
  rw [hQ]
  exact W.iret (v := r_10) hx hb hr (fun t ht hW => ⟨⟨r_10, (o0_10, o1_10, o2_10, o3_10, o4_10), rfl, e, ⟨by rw [ht]; exact hP, by rw [hAe]; exact hD⟩⟩, hS.F ht⟩) hS.2.2 dX2_uncovered_13

def pf_X2n_spare (kc : Nat → Int32) (kh : Nat → Int32) (fo : Nat → Nat → Int32) (kp : Nat → Int32) (n : Nat) (qp : Nat → Int32) (qm : Nat → Int32) (qv : Nat → Int32) (qc : Nat → Int32) (p0 : Int32) (mt : Nat → Int32) (mv : Nat → Int32) (sw : Nat → Int32) (hv : Int32) (tk : Nat → Int32) : Option (Int32 × (Nat → Int32) × (Nat → Int32) × (Nat → Int32) × Int32 × (Nat → Int32)) :=
  kv_q1 (pf_X2n_rightAt n p0) (fun k_2 => kv_q5 (pf_X2_layAllBut kc fo kp n qp qm qv qc p0 (qp k_2) kh mt mv sw hv tk) (fun o0_16 o1_16 o2_16 o3_16 o4_16 => kv_q2 (pf_X2_takeUp kc fo n qp qm qv k_2 kh o0_16 o1_16) (fun o0_25 o1_25 => kv_q1 (pf_X0_layOpen o0_25 o1_25 o4_16) (fun u_32 => kv_q1 (pf_X0_leastUncoveredWithin o2_16 o3_16 u_32 (qc k_2)) (fun r_43 => kv_q1 (pf_X0_weightOfSet o2_16 r_43) (fun r_60 => kv_q1 (pf_X0_leastTakenFor o2_16 o3_16 u_32 r_60) (fun r_63 => some (((qc k_2) - r_63), o0_25, o1_25, o2_16, o3_16, u_32))))))))
abbrev rmX2n_spare : Room := { frames := 4, cells := 0, slots := 0, locals := 90 }
set_option maxHeartbeats 4000000 in
set_option maxRecDepth 100000 in
theorem c_X2n_spare (l : Launch) (D : va_G) (ci ad : Nat → Nat) (kc : Nat → Int32) (kh : Nat → Int32) (ks : Nat → Int32) (fo : Nat → Nat → Int32) (kl : Nat → Int32) (kp : Nat → Int32) (dy : Int32) (mo : Int32) (n : Nat) (pa : Nat → Nat) (aE : Nat) (qp : Nat → Int32) (qm : Nat → Int32) (ql : Nat → Int32) (qv : Nat → Int32) (qc : Nat → Int32) (qe : Nat → Int32) (mt : Nat → Int32) (mv : Nat → Int32) (sw : Nat → Int32) (hv : Int32) (tk : Nat → Int32) (tn : Nat → Int32) (sc : Nat → Int32) (p0 : Int32)  (hRn : pf_X2n_spare kc kh fo kp n qp qm qv qc p0 mt mv sw hv tk ≠ none) (sz : Nat) : Met l yX2_spare wsX2_spare rmX2n_spare (va_Pc [.ref (ad 0), .int p0] (kv_pre D ci (kv_kw ci ad kc kh ks fo kl kp dy mo n pa aE qp qm ql qv qc qe mt mv sw hv tk tn sc) sz)) (va_Qi (fun (r : Int32) (u : (Nat → Int32) × (Nat → Int32) × (Nat → Int32) × Int32 × (Nat → Int32)) => pf_X2n_spare kc kh fo kp n qp qm qv qc p0 mt mv sw hv tk = some (r, u)) (fun u t => kv_post D (kv_kw ci ad kc kh ks fo kl kp dy mo n pa aE qp qm ql qv qc qe mt mv sw hv tk tn sc) sz (kv_kw ci ad kc kh ks fo kl kp dy mo n pa aE qp qm ql qv qc qe u.1 u.2.1 u.2.2.1 u.2.2.2.1 u.2.2.2.2 tn sc) t) (va_A (kv_kw ci ad kc kh ks fo kl kp dy mo n pa aE qp qm ql qv qc qe mt mv sw hv tk tn sc) sz)) 0 0 (va_A (kv_kw ci ad kc kh ks fo kl kp dy mo n pa aE qp qm ql qv qc qe mt mv sw hv tk tn sc) sz) := by
  refine Met.ofW (cc := cX2_spare) (maxL := 4) (ret := (some .int)) (by decide) rfl ?_
  intro p en s m args below meth c s₁ B hml hv
  obtain ⟨hv0, hsz, hP, hK, hD0⟩ := hv
  have hx := B.exec
  have hb := B.bytes
  have hr := B.returns
  have hts := atoms_spec (ws := wsX2_spare) B.pre
  have hown : s.vm.findClass RX2 = some m.cls := findClass_of_methodNamed B.named
  have hlocks := B.notSynchronized
  subst hsz
  have hD := hD0.self (sz := s.heap.size)
  generalize hAe : va_A (kv_kw ci ad kc kh ks fo kl kp dy mo n pa aE qp qm ql qv qc qe mt mv sw hv tk tn sc) s.heap.size = A at hD ⊢
  have hA : ∀ q : Nat, s.heap.size ≤ q → A q := fun q h => by rw [← hAe]; exact Or.inr h
  have hS : va_S A s.heap s.heap [] := va_S.rf
  have hP : va_P D vwCl (kv_kw ci ad kc kh ks fo kl kp dy mo n pa aE qp qm ql qv qc qe mt mv sw hv tk tn sc) s.heap := hP
  have hinRX1 : ∀ w ∈ u_ws RX1 TX1 6, w ∈ wsX2_spare := by decide +kernel
  have hinRX2 : ∀ w ∈ u_ws RX2 TX2 9, w ∈ wsX2_spare := by decide +kernel
  generalize hRd : pf_X2n_spare kc kh fo kp n qp qm qv qc p0 mt mv sw hv tk = Rz at hRn
  have hRz := hRn
  refine kv_Q (fun Q hQ => ?_)
  refine W.eq (show entryFrame m args 4 = _ from by rw [hv0, lg_entry_eq]) ?_
  have hl := lv_entry ([.ref (ad 0), .int p0]) (n := 4) (Nat.le_of_ble_eq_true rfl)
  generalize (lg_sl ([.ref (ad 0), .int p0]) ++ List.replicate (4 - (lg_sl ([.ref (ad 0), .int p0])).length) Slot.unset).toArray = ls at hl ⊢
  have hl : lv_has ls 4 [(0, .ref (ad 0)), (1, .int p0)] := hl
  have e : Rz = pf_X2n_spare kc kh fo kp n qp qm qv qc p0 mt mv sw hv tk := hRd.symm
  rw [pf_X2n_spare] at e
  refine lv_aload_n hx hb dX2_spare_0 rfl (lv_at hl 0 rfl) ?_
  refine lv_iload_n hx hb dX2_spare_1 rfl (lv_at hl 1 rfl) ?_
  refine kv_callq (pa := pa) (n := n) (va_runV (As := [.int p0]) (rest := []) ⟨hx, hb, hml, hown, hts⟩ (c_X2n_rightAt l D ci ad kc kh ks fo kl kp dy mo n pa aE qp qm ql qv qc qe mt mv sw hv tk tn sc p0 (kv_q1_n e hRz) s.heap.size) (cwV 1 hts gX2_spare_X2_rightAt rfl rfl rfl (by decide +kernel) ⟨Nat.le_of_ble_eq_true rfl, Nat.le_of_ble_eq_true rfl⟩) (kv_preV hK hP hD (r := (RX2, TX2, 9)) (q0 := 0) (k := 3) rfl rfl rfl) rfl rfl hl.1 rfl (lv_room (Nat.le_of_ble_eq_true rfl)) dX2_spare_2 ⟨Nat.le_of_ble_eq_true rfl, Nat.le_of_ble_eq_true rfl⟩) hD hS hA (fun k_2 H locs hk_2 hw_2 hP hD hS => ?_)
  have e := kv_q1_e e hw_2
  refine lv_astore_n (lv' := [(2, .ref (pa k_2)), (0, .ref (ad 0)), (1, .int p0)]) hx hb dX2_spare_5 rfl hl (by decide) rfl (fun ls hl => ?_)
  refine lv_aload_n hx hb dX2_spare_6 rfl (lv_at hl 1 rfl) ?_
  refine lv_iload_n hx hb dX2_spare_7 rfl (lv_at hl 2 rfl) ?_
  refine lv_aload_n hx hb dX2_spare_8 rfl (lv_at hl 0 rfl) ?_
  refine va_get (D := D) (ci := 2) (v := .int (qp k_2)) (C := RX1) (T := TX1) (N := 6) hx hb hts hinRX1 hown hK hP (24 + k_2) (kv_rt hk_2) rfl 0 (by decide) (hts (.fieldLink RX2 86 "LicenceKeeper$Right" "product" "I") (by decide +kernel)) (fun _ h9 => h9) rfl dX2_spare_9 ?_
  refine lv_aload_n hx hb dX2_spare_12 rfl (lv_at hl 1 rfl) ?_
  refine va_get (D := D) (ci := 3) (v := .ref (ad 2)) (C := RX2) (T := TX2) (N := 9) hx hb hts hinRX2 hown hK hP 0 rfl rfl 1 (by decide) (hts (.fieldLink RX2 13 "LicenceKeeper" "hosts" "[I") (by decide +kernel)) (fun _ h9 => h9) rfl dX2_spare_13 ?_
  refine kv_callv (va_runV (As := [.int p0, .int (qp k_2), .ref (ad 2)]) (rest := []) ⟨hx, hb, hml, hown, hts⟩ (c_X2_layAllBut l D ci ad kc kh ks fo kl kp dy mo n pa aE qp qm ql qv qc qe mt mv sw hv tk tn sc p0 (qp k_2) kh (ad 2) 2 (fun _ _ _ _ _ _ _ => rfl) (kv_q5_n e hRz) H.size) (cwV 3 hts gX2_spare_X2_layAllBut rfl rfl rfl (by decide +kernel) ⟨Nat.le_of_ble_eq_true rfl, Nat.le_of_ble_eq_true rfl⟩) (kv_preV hK hP hD (r := (RX2, TX2, 9)) (q0 := 0) (k := 3) rfl rfl rfl) rfl rfl hl.1 rfl (lv_room (Nat.le_of_ble_eq_true rfl)) dX2_spare_16 ⟨Nat.le_of_ble_eq_true rfl, Nat.le_of_ble_eq_true rfl⟩) hD hS hA (fun u_16 H locs hw_16 hP hD hS => ?_)
  obtain ⟨o0_16, o1_16, o2_16, o3_16, o4_16⟩ := u_16
  have e := kv_q5_e e hw_16
  have hP : va_P D vwCl (kv_kw ci ad kc kh ks fo kl kp dy mo n pa aE qp qm ql qv qc qe o0_16 o1_16 o2_16 o3_16 o4_16 tn sc) H := hP
  have hD : va_D A (kv_kw ci ad kc kh ks fo kl kp dy mo n pa aE qp qm ql qv qc qe o0_16 o1_16 o2_16 o3_16 o4_16 tn sc) := hD
  refine lv_aload_n hx hb dX2_spare_19 rfl (lv_at hl 1 rfl) ?_
  refine lv_aload_n hx hb dX2_spare_20 rfl (lv_at hl 0 rfl) ?_
  refine lv_aload_n hx hb dX2_spare_21 rfl (lv_at hl 1 rfl) ?_
  refine va_get (D := D) (ci := 3) (v := .ref (ad 2)) (C := RX2) (T := TX2) (N := 9) hx hb hts hinRX2 hown hK hP 0 rfl rfl 1 (by decide) (hts (.fieldLink RX2 13 "LicenceKeeper" "hosts" "[I") (by decide +kernel)) (fun _ h9 => h9) rfl dX2_spare_22 ?_
  refine kv_callv (va_runV (As := [.ref (pa k_2), .ref (ad 2)]) (rest := []) ⟨hx, hb, hml, hown, hts⟩ (c_X2_takeUp l D ci ad kc kh ks fo kl kp dy mo n pa aE qp qm ql qv qc qe o0_16 o1_16 o2_16 o3_16 o4_16 tn sc k_2 kh hk_2 (ad 2) 2 (fun _ _ _ _ _ _ _ => rfl) (kv_q2_n e hRz) H.size) (cwV 2 hts gX2_spare_X2_takeUp rfl rfl rfl (by decide +kernel) ⟨Nat.le_of_ble_eq_true rfl, Nat.le_of_ble_eq_true rfl⟩) (kv_preV hK hP hD (r := (RX2, TX2, 9)) (q0 := 0) (k := 3) rfl rfl rfl) rfl rfl hl.1 rfl (lv_room (Nat.le_of_ble_eq_true rfl)) dX2_spare_25 ⟨Nat.le_of_ble_eq_true rfl, Nat.le_of_ble_eq_true rfl⟩) hD hS hA (fun u_25 H locs hw_25 hP hD hS => ?_)
  obtain ⟨o0_25, o1_25⟩ := u_25
  have e := kv_q2_e e hw_25
  have hP : va_P D vwCl (kv_kw ci ad kc kh ks fo kl kp dy mo n pa aE qp qm ql qv qc qe o0_25 o1_25 o2_16 o3_16 o4_16 tn sc) H := hP
  have hD : va_D A (kv_kw ci ad kc kh ks fo kl kp dy mo n pa aE qp qm ql qv qc qe o0_25 o1_25 o2_16 o3_16 o4_16 tn sc) := hD
  refine lv_aload_n hx hb dX2_spare_28 rfl (lv_at hl 1 rfl) ?_
  refine va_get (D := D) (ci := 3) (v := .ref (ad 8)) (C := RX2) (T := TX2) (N := 9) hx hb hts hinRX2 hown hK hP 0 rfl rfl 7 (by decide) (hts (.fieldLink RX2 40 "LicenceKeeper" "layings" "LLicenceKeeper$Layings;") (by decide +kernel)) (fun _ h9 => h9) rfl dX2_spare_29 ?_
  refine kv_callv (va_runV (As := []) (rest := []) ⟨hx, hb, hml, hown, hts⟩ (c_X0_layOpen l D ci ad kc kh ks fo kl kp dy mo n pa aE qp qm ql qv qc qe o0_25 o1_25 o2_16 o3_16 o4_16 tn sc  (kv_q1_n e hRz) H.size) (cwV 0 hts gX2_spare_X0_layOpen rfl rfl rfl (by decide +kernel) ⟨Nat.le_of_ble_eq_true rfl, Nat.le_of_ble_eq_true rfl⟩) (kv_preV hK hP hD (r := (RX0, TX0, 7)) (q0 := 8) (k := 1) rfl rfl rfl) rfl rfl hl.1 rfl (lv_room (Nat.le_of_ble_eq_true rfl)) dX2_spare_32 ⟨Nat.le_of_ble_eq_true rfl, Nat.le_of_ble_eq_true rfl⟩) hD hS hA (fun u_32 H locs hw_32 hP hD hS => ?_)
  have e := kv_q1_e e hw_32
  have hP : va_P D vwCl (kv_kw ci ad kc kh ks fo kl kp dy mo n pa aE qp qm ql qv qc qe o0_25 o1_25 o2_16 o3_16 u_32 tn sc) H := hP
  have hD : va_D A (kv_kw ci ad kc kh ks fo kl kp dy mo n pa aE qp qm ql qv qc qe o0_25 o1_25 o2_16 o3_16 u_32 tn sc) := hD
  refine lv_aload_n hx hb dX2_spare_35 rfl (lv_at hl 1 rfl) ?_
  refine va_get (D := D) (ci := 3) (v := .ref (ad 8)) (C := RX2) (T := TX2) (N := 9) hx hb hts hinRX2 hown hK hP 0 rfl rfl 7 (by decide) (hts (.fieldLink RX2 40 "LicenceKeeper" "layings" "LLicenceKeeper$Layings;") (by decide +kernel)) (fun _ h9 => h9) rfl dX2_spare_36 ?_
  refine lv_aload_n hx hb dX2_spare_39 rfl (lv_at hl 0 rfl) ?_
  refine va_get (D := D) (ci := 2) (v := .int (qc k_2)) (C := RX1) (T := TX1) (N := 6) hx hb hts hinRX1 hown hK hP (24 + k_2) (kv_rt hk_2) rfl 4 (by decide) (hts (.fieldLink RX2 112 "LicenceKeeper$Right" "count" "I") (by decide +kernel)) (fun _ h9 => h9) rfl dX2_spare_40 ?_
  refine kv_calli (va_runV (As := [.int (qc k_2)]) (rest := []) ⟨hx, hb, hml, hown, hts⟩ (c_X0_leastUncoveredWithin l D ci ad kc kh ks fo kl kp dy mo n pa aE qp qm ql qv qc qe o0_25 o1_25 o2_16 o3_16 u_32 tn sc (qc k_2) (kv_q1_n e hRz) H.size) (cwV 1 hts gX2_spare_X0_leastUncoveredWithin rfl rfl rfl (by decide +kernel) ⟨Nat.le_of_ble_eq_true rfl, Nat.le_of_ble_eq_true rfl⟩) (kv_preV hK hP hD (r := (RX0, TX0, 7)) (q0 := 8) (k := 1) rfl rfl rfl) rfl rfl hl.1 rfl (lv_room (Nat.le_of_ble_eq_true rfl)) dX2_spare_43 ⟨Nat.le_of_ble_eq_true rfl, Nat.le_of_ble_eq_true rfl⟩) hD hS hA (fun r_43 u_43 H locs hw_43 hP hD hS => ?_)
  have e := kv_q1_e e hw_43
  refine lv_istore_n (lv' := [(3, .int r_43), (2, .ref (pa k_2)), (0, .ref (ad 0)), (1, .int p0)]) hx hb dX2_spare_46 rfl hl (by decide) rfl (fun ls hl => ?_)
  refine lv_aload_n hx hb dX2_spare_47 rfl (lv_at hl 1 rfl) ?_
  refine va_get (D := D) (ci := 2) (v := .int (qc k_2)) (C := RX1) (T := TX1) (N := 6) hx hb hts hinRX1 hown hK hP (24 + k_2) (kv_rt hk_2) rfl 4 (by decide) (hts (.fieldLink RX2 112 "LicenceKeeper$Right" "count" "I") (by decide +kernel)) (fun _ h9 => h9) rfl dX2_spare_48 ?_
  refine lv_aload_n hx hb dX2_spare_51 rfl (lv_at hl 2 rfl) ?_
  refine va_get (D := D) (ci := 3) (v := .ref (ad 8)) (C := RX2) (T := TX2) (N := 9) hx hb hts hinRX2 hown hK hP 0 rfl rfl 7 (by decide) (hts (.fieldLink RX2 40 "LicenceKeeper" "layings" "LLicenceKeeper$Layings;") (by decide +kernel)) (fun _ h9 => h9) rfl dX2_spare_52 ?_
  refine lv_aload_n hx hb dX2_spare_55 rfl (lv_at hl 2 rfl) ?_
  refine va_get (D := D) (ci := 3) (v := .ref (ad 8)) (C := RX2) (T := TX2) (N := 9) hx hb hts hinRX2 hown hK hP 0 rfl rfl 7 (by decide) (hts (.fieldLink RX2 40 "LicenceKeeper" "layings" "LLicenceKeeper$Layings;") (by decide +kernel)) (fun _ h9 => h9) rfl dX2_spare_56 ?_
  refine lv_iload_n hx hb dX2_spare_59 rfl (lv_at hl 0 rfl) ?_
  refine kv_calli (va_runV (As := [.int r_43]) (rest := [.ref (ad 8), .int (qc k_2)]) ⟨hx, hb, hml, hown, hts⟩ (c_X0_weightOfSet l D ci ad kc kh ks fo kl kp dy mo n pa aE qp qm ql qv qc qe o0_25 o1_25 o2_16 o3_16 u_32 tn sc r_43 (kv_q1_n e hRz) H.size) (cwV 1 hts gX2_spare_X0_weightOfSet rfl rfl rfl (by decide +kernel) ⟨Nat.le_of_ble_eq_true rfl, Nat.le_of_ble_eq_true rfl⟩) (kv_preV hK hP hD (r := (RX0, TX0, 7)) (q0 := 8) (k := 1) rfl rfl rfl) rfl rfl hl.1 rfl (lv_room (Nat.le_of_ble_eq_true rfl)) dX2_spare_60 ⟨Nat.le_of_ble_eq_true rfl, Nat.le_of_ble_eq_true rfl⟩) hD hS hA (fun r_60 u_60 H locs hw_60 hP hD hS => ?_)
  have e := kv_q1_e e hw_60
  refine kv_calli (va_runV (As := [.int r_60]) (rest := [.int (qc k_2)]) ⟨hx, hb, hml, hown, hts⟩ (c_X0_leastTakenFor l D ci ad kc kh ks fo kl kp dy mo n pa aE qp qm ql qv qc qe o0_25 o1_25 o2_16 o3_16 u_32 tn sc r_60 (kv_q1_n e hRz) H.size) (cwV 1 hts gX2_spare_X0_leastTakenFor rfl rfl rfl (by decide +kernel) ⟨Nat.le_of_ble_eq_true rfl, Nat.le_of_ble_eq_true rfl⟩) (kv_preV hK hP hD (r := (RX0, TX0, 7)) (q0 := 8) (k := 1) rfl rfl rfl) rfl rfl hl.1 rfl (lv_room (Nat.le_of_ble_eq_true rfl)) dX2_spare_63 ⟨Nat.le_of_ble_eq_true rfl, Nat.le_of_ble_eq_true rfl⟩) hD hS hA (fun r_63 u_63 H locs hw_63 hP hD hS => ?_)
  have e := kv_q1_e e hw_63
  refine lv_isub hx hb dX2_spare_66 ?_
  rw [hQ]
  exact W.iret (v := ((qc k_2) - r_63)) hx hb hr (fun t ht hW => ⟨⟨((qc k_2) - r_63), (o0_25, o1_25, o2_16, o3_16, u_32), rfl, e, ⟨by rw [ht]; exact hP, by rw [hAe]; exact hD⟩⟩, hS.F ht⟩) hS.2.2 dX2_spare_67
