def pf_X2_requireMachine (p0 : Int32)  : Option ((Unit) ⊕ Nat) :=
  if p0 < 0 then some (.inr 1) else if p0 < 8 then some (.inl ()) else some (.inr 1)
abbrev rmX2_requireMachine : Room := { frames := 6, cells := 1, slots := 6, locals := 82 }
set_option maxHeartbeats 4000000 in
set_option maxRecDepth 100000 in
theorem c_X2_requireMachine (l : Launch) (hl9 : l.stackTraces = false) (D : va_G) (ci ad : Nat → Nat) (kc : Nat → Int32) (kh : Nat → Int32) (ks : Nat → Int32) (fo : Nat → Nat → Int32) (kl : Nat → Int32) (kp : Nat → Int32) (dy : Int32) (mo : Int32) (n : Nat) (pa : Nat → Nat) (aE : Nat) (qp : Nat → Int32) (qm : Nat → Int32) (ql : Nat → Int32) (qv : Nat → Int32) (qc : Nat → Int32) (qe : Nat → Int32) (mt : Nat → Int32) (mv : Nat → Int32) (sw : Nat → Int32) (hv : Int32) (tk : Nat → Int32) (tn : Nat → Int32) (sc : Nat → Int32) (p0 : Int32)  (hRn : pf_X2_requireMachine p0 ≠ none) (sz : Nat) : vx_Met l yX2_requireMachine wsX2_requireMachine rmX2_requireMachine (va_Pc [.int p0] (kv_preX D ci (kv_kw ci ad kc kh ks fo kl kp dy mo n pa aE qp qm ql qv qc qe mt mv sw hv tk tn sc) sz))  (va_Qv (fun (u : Unit) => pf_X2_requireMachine p0 = some (.inl (u))) (fun u t => kv_post D (kv_kw ci ad kc kh ks fo kl kp dy mo n pa aE qp qm ql qv qc qe mt mv sw hv tk tn sc) sz (kv_kw ci ad kc kh ks fo kl kp dy mo n pa aE qp qm ql qv qc qe mt mv sw hv tk tn sc) t) (va_A (kv_kw ci ad kc kh ks fo kl kp dy mo n pa aE qp qm ql qv qc qe mt mv sw hv tk tn sc) sz)) (vx_X (fun u : Nat => pf_X2_requireMachine p0 = some (.inr u)) (fun E u t => E = kv_ex u ∧ kv_post D (kv_kw ci ad kc kh ks fo kl kp dy mo n pa aE qp qm ql qv qc qe mt mv sw hv tk tn sc) sz (kv_kw ci ad kc kh ks fo kl kp dy mo n pa aE qp qm ql qv qc qe mt mv sw hv tk tn sc) t) (va_A (kv_kw ci ad kc kh ks fo kl kp dy mo n pa aE qp qm ql qv qc qe mt mv sw hv tk tn sc) sz)) 1 6 (va_A (kv_kw ci ad kc kh ks fo kl kp dy mo n pa aE qp qm ql qv qc qe mt mv sw hv tk tn sc) sz) := by
  refine vx_ofW (cc := cX2_requireMachine) (maxL := 1) (ret := none) (by decide) rfl ?_
  intro p en s m args below meth c s₁ B hml hex hv
  obtain ⟨hv0, ⟨hsz, hP, hK, hD0⟩, hT⟩ := hv
  have hx := B.exec
  have hb := B.bytes
  have hr := B.returns
  have hts := atoms_spec (ws := wsX2_requireMachine) B.pre
  have hown : s.vm.findClass RX2 = some m.cls := findClass_of_methodNamed B.named
  have hlocks := B.notSynchronized
  subst hsz
  have hD := hD0.self (sz := s.heap.size)
  generalize hAe : va_A (kv_kw ci ad kc kh ks fo kl kp dy mo n pa aE qp qm ql qv qc qe mt mv sw hv tk tn sc) s.heap.size = A at hD hT ⊢
  have hA : ∀ q : Nat, s.heap.size ≤ q → A q := fun q h => by rw [← hAe]; exact Or.inr h
  have hS : va_S A s.heap s.heap [] := va_S.rf
  have hP : va_P D vwCl (kv_kw ci ad kc kh ks fo kl kp dy mo n pa aE qp qm ql qv qc qe mt mv sw hv tk tn sc) s.heap := hP
  generalize hRd : pf_X2_requireMachine p0 = Rz at hRn
  have hRz := hRn
  refine kv_Q (fun Q hQ => ?_)
  refine W.eq (show entryFrame m args 1 = _ from by rw [hv0, lg_entry_eq]) ?_
  have hl := lv_entry ([.int p0]) (n := 1) (Nat.le_of_ble_eq_true rfl)
  generalize (lg_sl ([.int p0]) ++ List.replicate (1 - (lg_sl ([.int p0])).length) Slot.unset).toArray = ls at hl ⊢
  have hl : lv_has ls 1 [(0, .int p0)] := hl
  have e : Rz = pf_X2_requireMachine p0 := hRd.symm
  rw [pf_X2_requireMachine] at e
  refine lv_iload_n hx hb dX2_requireMachine_0 rfl (lv_at hl 0 rfl) ?_
  refine lv_if_lt (tgt := 10) hx hb dX2_requireMachine_1 (by decide) (fun c_1 => ?_) (fun c_1 => ?_)
  · have e := e.trans (if_pos c_1)
    rw [hQ]
    obtain ⟨sa9, hs9⟩ := hT.2.2.1 (173, "there is no such machine") (by decide +kernel)
    have hg9 : ∀ w ∈ (vx_atS RX2 175 "java/lang/IndexOutOfBoundsException" ["java/lang/RuntimeException", "java/lang/Exception"]).filter goodWord, w ∈ wsX2_requireMachine := by decide +kernel
    refine vx_throwS hx hb hl9 (own := RX2) (cls := "java/lang/IndexOutOfBoundsException") (text := "there is no such machine") (names := ["java/lang/RuntimeException", "java/lang/Exception"]) (ik := 171) (is := 173) (ic := 175) (A := A) hown (by decide +kernel) (by decide +kernel) (hts (.classLink RX2 171 "java/lang/IndexOutOfBoundsException") (by decide +kernel)) (hts (.initialized "java/lang/IndexOutOfBoundsException") (by decide +kernel)) hs9 (vx_hat (B := [.castable "java/lang/IndexOutOfBoundsException" "java/lang/IndexOutOfBoundsException", .declares (Bundle.initS "java/lang/RuntimeException"), .declares (Bundle.initS "java/lang/Exception"), .declares (Bundle.initS Bundle.tN)]) (fun w hw => hts w (hg9 w hw)) (by decide +kernel) (vx_c (va_Nw.use rfl (hT.2.2.2.1 1)) (vx_c (va_Nw.use rfl (hT.2.2.2.2 "java/lang/RuntimeException" (by decide +kernel))) (vx_c (va_Nw.use rfl (hT.2.2.2.2 "java/lang/Exception" (by decide +kernel))) (vx_c (va_Nw.use rfl (hT.2.2.2.2 Bundle.tN (by decide +kernel))) vx_n))))) (by decide +kernel) hT.1 hT.2.1 hS (hl.1.trans hml.symm) dX2_requireMachine_10 dX2_requireMachine_13 dX2_requireMachine_14 dX2_requireMachine_16 dX2_requireMachine_19 (fun x h => (hex x h).elim) (Nat.le_of_ble_eq_true rfl) (Nat.le_of_ble_eq_true rfl) (Nat.le_of_ble_eq_true rfl) (Nat.le_of_ble_eq_true rfl) hlocks (fun t hvm h1 h2 => ?_) hS.2.2 (Nat.le_of_ble_eq_true rfl) (Nat.le_of_ble_eq_true rfl)
    obtain ⟨⟨a1, a2⟩, a3⟩ := kv_thrown hP hD hS h1 h2
    exact ⟨1, e, ⟨by decide +kernel, a1, by rw [hAe]; exact a2⟩, a3⟩
  · have e := e.trans (if_neg c_1)
    refine lv_iload_n hx hb dX2_requireMachine_4 rfl (lv_at hl 0 rfl) ?_
    refine lv_bipush (v := 8) hx hb dX2_requireMachine_5 (by decide) ?_
    refine lv_icmp_lt (tgt := 20) hx hb dX2_requireMachine_7 (by decide) (fun c_7 => ?_) (fun c_7 => ?_)
    · have e := e.trans (if_pos c_7)
      rw [hQ]
      refine W.widen (k := 1) (n := 6) (Nat.le_of_ble_eq_true rfl) (Nat.le_of_ble_eq_true rfl) ?_
      refine vx_ret ?_
      exact W.vret hx hb hr (fun t ht hW => ⟨⟨(), rfl, e, ⟨by rw [ht]; exact hP, by rw [hAe]; exact hD⟩⟩, hS.F ht⟩) hS.2.2 dX2_requireMachine_20
    · have e := e.trans (if_neg c_7)
      rw [hQ]
      obtain ⟨sa9, hs9⟩ := hT.2.2.1 (173, "there is no such machine") (by decide +kernel)
      have hg9 : ∀ w ∈ (vx_atS RX2 175 "java/lang/IndexOutOfBoundsException" ["java/lang/RuntimeException", "java/lang/Exception"]).filter goodWord, w ∈ wsX2_requireMachine := by decide +kernel
      refine vx_throwS hx hb hl9 (own := RX2) (cls := "java/lang/IndexOutOfBoundsException") (text := "there is no such machine") (names := ["java/lang/RuntimeException", "java/lang/Exception"]) (ik := 171) (is := 173) (ic := 175) (A := A) hown (by decide +kernel) (by decide +kernel) (hts (.classLink RX2 171 "java/lang/IndexOutOfBoundsException") (by decide +kernel)) (hts (.initialized "java/lang/IndexOutOfBoundsException") (by decide +kernel)) hs9 (vx_hat (B := [.castable "java/lang/IndexOutOfBoundsException" "java/lang/IndexOutOfBoundsException", .declares (Bundle.initS "java/lang/RuntimeException"), .declares (Bundle.initS "java/lang/Exception"), .declares (Bundle.initS Bundle.tN)]) (fun w hw => hts w (hg9 w hw)) (by decide +kernel) (vx_c (va_Nw.use rfl (hT.2.2.2.1 1)) (vx_c (va_Nw.use rfl (hT.2.2.2.2 "java/lang/RuntimeException" (by decide +kernel))) (vx_c (va_Nw.use rfl (hT.2.2.2.2 "java/lang/Exception" (by decide +kernel))) (vx_c (va_Nw.use rfl (hT.2.2.2.2 Bundle.tN (by decide +kernel))) vx_n))))) (by decide +kernel) hT.1 hT.2.1 hS (hl.1.trans hml.symm) dX2_requireMachine_10 dX2_requireMachine_13 dX2_requireMachine_14 dX2_requireMachine_16 dX2_requireMachine_19 (fun x h => (hex x h).elim) (Nat.le_of_ble_eq_true rfl) (Nat.le_of_ble_eq_true rfl) (Nat.le_of_ble_eq_true rfl) (Nat.le_of_ble_eq_true rfl) hlocks (fun t hvm h1 h2 => ?_) hS.2.2 (Nat.le_of_ble_eq_true rfl) (Nat.le_of_ble_eq_true rfl)
      obtain ⟨⟨a1, a2⟩, a3⟩ := kv_thrown hP hD hS h1 h2
      exact ⟨1, e, ⟨by decide +kernel, a1, by rw [hAe]; exact a2⟩, a3⟩

def pf_X2_requireProduct (p0 : Int32)  : Option ((Unit) ⊕ Nat) :=
  if p0 < 0 then some (.inr 1) else if p0 < 4 then some (.inl ()) else some (.inr 1)
abbrev rmX2_requireProduct : Room := { frames := 6, cells := 1, slots := 6, locals := 82 }
set_option maxHeartbeats 4000000 in
set_option maxRecDepth 100000 in
theorem c_X2_requireProduct (l : Launch) (hl9 : l.stackTraces = false) (D : va_G) (ci ad : Nat → Nat) (kc : Nat → Int32) (kh : Nat → Int32) (ks : Nat → Int32) (fo : Nat → Nat → Int32) (kl : Nat → Int32) (kp : Nat → Int32) (dy : Int32) (mo : Int32) (n : Nat) (pa : Nat → Nat) (aE : Nat) (qp : Nat → Int32) (qm : Nat → Int32) (ql : Nat → Int32) (qv : Nat → Int32) (qc : Nat → Int32) (qe : Nat → Int32) (mt : Nat → Int32) (mv : Nat → Int32) (sw : Nat → Int32) (hv : Int32) (tk : Nat → Int32) (tn : Nat → Int32) (sc : Nat → Int32) (p0 : Int32)  (hRn : pf_X2_requireProduct p0 ≠ none) (sz : Nat) : vx_Met l yX2_requireProduct wsX2_requireProduct rmX2_requireProduct (va_Pc [.int p0] (kv_preX D ci (kv_kw ci ad kc kh ks fo kl kp dy mo n pa aE qp qm ql qv qc qe mt mv sw hv tk tn sc) sz))  (va_Qv (fun (u : Unit) => pf_X2_requireProduct p0 = some (.inl (u))) (fun u t => kv_post D (kv_kw ci ad kc kh ks fo kl kp dy mo n pa aE qp qm ql qv qc qe mt mv sw hv tk tn sc) sz (kv_kw ci ad kc kh ks fo kl kp dy mo n pa aE qp qm ql qv qc qe mt mv sw hv tk tn sc) t) (va_A (kv_kw ci ad kc kh ks fo kl kp dy mo n pa aE qp qm ql qv qc qe mt mv sw hv tk tn sc) sz)) (vx_X (fun u : Nat => pf_X2_requireProduct p0 = some (.inr u)) (fun E u t => E = kv_ex u ∧ kv_post D (kv_kw ci ad kc kh ks fo kl kp dy mo n pa aE qp qm ql qv qc qe mt mv sw hv tk tn sc) sz (kv_kw ci ad kc kh ks fo kl kp dy mo n pa aE qp qm ql qv qc qe mt mv sw hv tk tn sc) t) (va_A (kv_kw ci ad kc kh ks fo kl kp dy mo n pa aE qp qm ql qv qc qe mt mv sw hv tk tn sc) sz)) 1 6 (va_A (kv_kw ci ad kc kh ks fo kl kp dy mo n pa aE qp qm ql qv qc qe mt mv sw hv tk tn sc) sz) := by
  refine vx_ofW (cc := cX2_requireProduct) (maxL := 1) (ret := none) (by decide) rfl ?_
  intro p en s m args below meth c s₁ B hml hex hv
  obtain ⟨hv0, ⟨hsz, hP, hK, hD0⟩, hT⟩ := hv
  have hx := B.exec
  have hb := B.bytes
  have hr := B.returns
  have hts := atoms_spec (ws := wsX2_requireProduct) B.pre
  have hown : s.vm.findClass RX2 = some m.cls := findClass_of_methodNamed B.named
  have hlocks := B.notSynchronized
  subst hsz
  have hD := hD0.self (sz := s.heap.size)
  generalize hAe : va_A (kv_kw ci ad kc kh ks fo kl kp dy mo n pa aE qp qm ql qv qc qe mt mv sw hv tk tn sc) s.heap.size = A at hD hT ⊢
  have hA : ∀ q : Nat, s.heap.size ≤ q → A q := fun q h => by rw [← hAe]; exact Or.inr h
  have hS : va_S A s.heap s.heap [] := va_S.rf
  have hP : va_P D vwCl (kv_kw ci ad kc kh ks fo kl kp dy mo n pa aE qp qm ql qv qc qe mt mv sw hv tk tn sc) s.heap := hP
  generalize hRd : pf_X2_requireProduct p0 = Rz at hRn
  have hRz := hRn
  refine kv_Q (fun Q hQ => ?_)
  refine W.eq (show entryFrame m args 1 = _ from by rw [hv0, lg_entry_eq]) ?_
  have hl := lv_entry ([.int p0]) (n := 1) (Nat.le_of_ble_eq_true rfl)
  generalize (lg_sl ([.int p0]) ++ List.replicate (1 - (lg_sl ([.int p0])).length) Slot.unset).toArray = ls at hl ⊢
  have hl : lv_has ls 1 [(0, .int p0)] := hl
  have e : Rz = pf_X2_requireProduct p0 := hRd.symm
  rw [pf_X2_requireProduct] at e
  refine lv_iload_n hx hb dX2_requireProduct_0 rfl (lv_at hl 0 rfl) ?_
  refine lv_if_lt (tgt := 9) hx hb dX2_requireProduct_1 (by decide) (fun c_1 => ?_) (fun c_1 => ?_)
  · have e := e.trans (if_pos c_1)
    rw [hQ]
    obtain ⟨sa9, hs9⟩ := hT.2.2.1 (176, "there is no such product") (by decide +kernel)
    have hg9 : ∀ w ∈ (vx_atS RX2 175 "java/lang/IndexOutOfBoundsException" ["java/lang/RuntimeException", "java/lang/Exception"]).filter goodWord, w ∈ wsX2_requireProduct := by decide +kernel
    refine vx_throwS hx hb hl9 (own := RX2) (cls := "java/lang/IndexOutOfBoundsException") (text := "there is no such product") (names := ["java/lang/RuntimeException", "java/lang/Exception"]) (ik := 171) (is := 176) (ic := 175) (A := A) hown (by decide +kernel) (by decide +kernel) (hts (.classLink RX2 171 "java/lang/IndexOutOfBoundsException") (by decide +kernel)) (hts (.initialized "java/lang/IndexOutOfBoundsException") (by decide +kernel)) hs9 (vx_hat (B := [.castable "java/lang/IndexOutOfBoundsException" "java/lang/IndexOutOfBoundsException", .declares (Bundle.initS "java/lang/RuntimeException"), .declares (Bundle.initS "java/lang/Exception"), .declares (Bundle.initS Bundle.tN)]) (fun w hw => hts w (hg9 w hw)) (by decide +kernel) (vx_c (va_Nw.use rfl (hT.2.2.2.1 1)) (vx_c (va_Nw.use rfl (hT.2.2.2.2 "java/lang/RuntimeException" (by decide +kernel))) (vx_c (va_Nw.use rfl (hT.2.2.2.2 "java/lang/Exception" (by decide +kernel))) (vx_c (va_Nw.use rfl (hT.2.2.2.2 Bundle.tN (by decide +kernel))) vx_n))))) (by decide +kernel) hT.1 hT.2.1 hS (hl.1.trans hml.symm) dX2_requireProduct_9 dX2_requireProduct_12 dX2_requireProduct_13 dX2_requireProduct_15 dX2_requireProduct_18 (fun x h => (hex x h).elim) (Nat.le_of_ble_eq_true rfl) (Nat.le_of_ble_eq_true rfl) (Nat.le_of_ble_eq_true rfl) (Nat.le_of_ble_eq_true rfl) hlocks (fun t hvm h1 h2 => ?_) hS.2.2 (Nat.le_of_ble_eq_true rfl) (Nat.le_of_ble_eq_true rfl)
    obtain ⟨⟨a1, a2⟩, a3⟩ := kv_thrown hP hD hS h1 h2
    exact ⟨1, e, ⟨by decide +kernel, a1, by rw [hAe]; exact a2⟩, a3⟩
  · have e := e.trans (if_neg c_1)
    refine lv_iload_n hx hb dX2_requireProduct_4 rfl (lv_at hl 0 rfl) ?_
    refine lv_iconst (v := 4) hx hb dX2_requireProduct_5 (by decide) ?_
    refine lv_icmp_lt (tgt := 19) hx hb dX2_requireProduct_6 (by decide) (fun c_6 => ?_) (fun c_6 => ?_)
    · have e := e.trans (if_pos c_6)
      rw [hQ]
      refine W.widen (k := 1) (n := 6) (Nat.le_of_ble_eq_true rfl) (Nat.le_of_ble_eq_true rfl) ?_
      refine vx_ret ?_
      exact W.vret hx hb hr (fun t ht hW => ⟨⟨(), rfl, e, ⟨by rw [ht]; exact hP, by rw [hAe]; exact hD⟩⟩, hS.F ht⟩) hS.2.2 dX2_requireProduct_19
    · have e := e.trans (if_neg c_6)
      rw [hQ]
      obtain ⟨sa9, hs9⟩ := hT.2.2.1 (176, "there is no such product") (by decide +kernel)
      have hg9 : ∀ w ∈ (vx_atS RX2 175 "java/lang/IndexOutOfBoundsException" ["java/lang/RuntimeException", "java/lang/Exception"]).filter goodWord, w ∈ wsX2_requireProduct := by decide +kernel
      refine vx_throwS hx hb hl9 (own := RX2) (cls := "java/lang/IndexOutOfBoundsException") (text := "there is no such product") (names := ["java/lang/RuntimeException", "java/lang/Exception"]) (ik := 171) (is := 176) (ic := 175) (A := A) hown (by decide +kernel) (by decide +kernel) (hts (.classLink RX2 171 "java/lang/IndexOutOfBoundsException") (by decide +kernel)) (hts (.initialized "java/lang/IndexOutOfBoundsException") (by decide +kernel)) hs9 (vx_hat (B := [.castable "java/lang/IndexOutOfBoundsException" "java/lang/IndexOutOfBoundsException", .declares (Bundle.initS "java/lang/RuntimeException"), .declares (Bundle.initS "java/lang/Exception"), .declares (Bundle.initS Bundle.tN)]) (fun w hw => hts w (hg9 w hw)) (by decide +kernel) (vx_c (va_Nw.use rfl (hT.2.2.2.1 1)) (vx_c (va_Nw.use rfl (hT.2.2.2.2 "java/lang/RuntimeException" (by decide +kernel))) (vx_c (va_Nw.use rfl (hT.2.2.2.2 "java/lang/Exception" (by decide +kernel))) (vx_c (va_Nw.use rfl (hT.2.2.2.2 Bundle.tN (by decide +kernel))) vx_n))))) (by decide +kernel) hT.1 hT.2.1 hS (hl.1.trans hml.symm) dX2_requireProduct_9 dX2_requireProduct_12 dX2_requireProduct_13 dX2_requireProduct_15 dX2_requireProduct_18 (fun x h => (hex x h).elim) (Nat.le_of_ble_eq_true rfl) (Nat.le_of_ble_eq_true rfl) (Nat.le_of_ble_eq_true rfl) (Nat.le_of_ble_eq_true rfl) hlocks (fun t hvm h1 h2 => ?_) hS.2.2 (Nat.le_of_ble_eq_true rfl) (Nat.le_of_ble_eq_true rfl)
      obtain ⟨⟨a1, a2⟩, a3⟩ := kv_thrown hP hD hS h1 h2
      exact ⟨1, e, ⟨by decide +kernel, a1, by rw [hAe]; exact a2⟩, a3⟩

def pf_X2_requireRange (p0 : Int32) (p1 : Int32) (p2 : Int32)  : Option ((Unit) ⊕ Nat) :=
  if p0 < p1 then some (.inr 2) else if p0 ≤ p2 then some (.inl ()) else some (.inr 2)
abbrev rmX2_requireRange : Room := { frames := 6, cells := 1, slots := 6, locals := 82 }
set_option maxHeartbeats 4000000 in
set_option maxRecDepth 100000 in
theorem c_X2_requireRange (l : Launch) (hl9 : l.stackTraces = false) (D : va_G) (ci ad : Nat → Nat) (kc : Nat → Int32) (kh : Nat → Int32) (ks : Nat → Int32) (fo : Nat → Nat → Int32) (kl : Nat → Int32) (kp : Nat → Int32) (dy : Int32) (mo : Int32) (n : Nat) (pa : Nat → Nat) (aE : Nat) (qp : Nat → Int32) (qm : Nat → Int32) (ql : Nat → Int32) (qv : Nat → Int32) (qc : Nat → Int32) (qe : Nat → Int32) (mt : Nat → Int32) (mv : Nat → Int32) (sw : Nat → Int32) (hv : Int32) (tk : Nat → Int32) (tn : Nat → Int32) (sc : Nat → Int32) (p0 : Int32) (p1 : Int32) (p2 : Int32)  (hRn : pf_X2_requireRange p0 p1 p2 ≠ none) (sz : Nat) : vx_Met l yX2_requireRange wsX2_requireRange rmX2_requireRange (va_Pc [.int p0, .int p1, .int p2] (kv_preX D ci (kv_kw ci ad kc kh ks fo kl kp dy mo n pa aE qp qm ql qv qc qe mt mv sw hv tk tn sc) sz))  (va_Qv (fun (u : Unit) => pf_X2_requireRange p0 p1 p2 = some (.inl (u))) (fun u t => kv_post D (kv_kw ci ad kc kh ks fo kl kp dy mo n pa aE qp qm ql qv qc qe mt mv sw hv tk tn sc) sz (kv_kw ci ad kc kh ks fo kl kp dy mo n pa aE qp qm ql qv qc qe mt mv sw hv tk tn sc) t) (va_A (kv_kw ci ad kc kh ks fo kl kp dy mo n pa aE qp qm ql qv qc qe mt mv sw hv tk tn sc) sz)) (vx_X (fun u : Nat => pf_X2_requireRange p0 p1 p2 = some (.inr u)) (fun E u t => E = kv_ex u ∧ kv_post D (kv_kw ci ad kc kh ks fo kl kp dy mo n pa aE qp qm ql qv qc qe mt mv sw hv tk tn sc) sz (kv_kw ci ad kc kh ks fo kl kp dy mo n pa aE qp qm ql qv qc qe mt mv sw hv tk tn sc) t) (va_A (kv_kw ci ad kc kh ks fo kl kp dy mo n pa aE qp qm ql qv qc qe mt mv sw hv tk tn sc) sz)) 1 6 (va_A (kv_kw ci ad kc kh ks fo kl kp dy mo n pa aE qp qm ql qv qc qe mt mv sw hv tk tn sc) sz) := by
  refine vx_ofW (cc := cX2_requireRange) (maxL := 3) (ret := none) (by decide) rfl ?_
  intro p en s m args below meth c s₁ B hml hex hv
  obtain ⟨hv0, ⟨hsz, hP, hK, hD0⟩, hT⟩ := hv
  have hx := B.exec
  have hb := B.bytes
  have hr := B.returns
  have hts := atoms_spec (ws := wsX2_requireRange) B.pre
  have hown : s.vm.findClass RX2 = some m.cls := findClass_of_methodNamed B.named
  have hlocks := B.notSynchronized
  subst hsz
  have hD := hD0.self (sz := s.heap.size)
  generalize hAe : va_A (kv_kw ci ad kc kh ks fo kl kp dy mo n pa aE qp qm ql qv qc qe mt mv sw hv tk tn sc) s.heap.size = A at hD hT ⊢
  have hA : ∀ q : Nat, s.heap.size ≤ q → A q := fun q h => by rw [← hAe]; exact Or.inr h
  have hS : va_S A s.heap s.heap [] := va_S.rf
  have hP : va_P D vwCl (kv_kw ci ad kc kh ks fo kl kp dy mo n pa aE qp qm ql qv qc qe mt mv sw hv tk tn sc) s.heap := hP
  generalize hRd : pf_X2_requireRange p0 p1 p2 = Rz at hRn
  have hRz := hRn
  refine kv_Q (fun Q hQ => ?_)
  refine W.eq (show entryFrame m args 3 = _ from by rw [hv0, lg_entry_eq]) ?_
  have hl := lv_entry ([.int p0, .int p1, .int p2]) (n := 3) (Nat.le_of_ble_eq_true rfl)
  generalize (lg_sl ([.int p0, .int p1, .int p2]) ++ List.replicate (3 - (lg_sl ([.int p0, .int p1, .int p2])).length) Slot.unset).toArray = ls at hl ⊢
  have hl : lv_has ls 3 [(0, .int p0), (1, .int p1), (2, .int p2)] := hl
  have e : Rz = pf_X2_requireRange p0 p1 p2 := hRd.symm
  rw [pf_X2_requireRange] at e
  refine lv_iload_n hx hb dX2_requireRange_0 rfl (lv_at hl 0 rfl) ?_
  refine lv_iload_n hx hb dX2_requireRange_1 rfl (lv_at hl 1 rfl) ?_
  refine lv_icmp_lt (tgt := 10) hx hb dX2_requireRange_2 (by decide) (fun c_2 => ?_) (fun c_2 => ?_)
  · have e := e.trans (if_pos c_2)
    rw [hQ]
    obtain ⟨sa9, hs9⟩ := hT.2.2.1 (180, "an argument is out of its range") (by decide +kernel)
    have hg9 : ∀ w ∈ (vx_atS RX2 182 "java/lang/IllegalArgumentException" ["java/lang/RuntimeException", "java/lang/Exception"]).filter goodWord, w ∈ wsX2_requireRange := by decide +kernel
    refine vx_throwS hx hb hl9 (own := RX2) (cls := "java/lang/IllegalArgumentException") (text := "an argument is out of its range") (names := ["java/lang/RuntimeException", "java/lang/Exception"]) (ik := 178) (is := 180) (ic := 182) (A := A) hown (by decide +kernel) (by decide +kernel) (hts (.classLink RX2 178 "java/lang/IllegalArgumentException") (by decide +kernel)) (hts (.initialized "java/lang/IllegalArgumentException") (by decide +kernel)) hs9 (vx_hat (B := [.castable "java/lang/IllegalArgumentException" "java/lang/IllegalArgumentException", .declares (Bundle.initS "java/lang/RuntimeException"), .declares (Bundle.initS "java/lang/Exception"), .declares (Bundle.initS Bundle.tN)]) (fun w hw => hts w (hg9 w hw)) (by decide +kernel) (vx_c (va_Nw.use rfl (hT.2.2.2.1 2)) (vx_c (va_Nw.use rfl (hT.2.2.2.2 "java/lang/RuntimeException" (by decide +kernel))) (vx_c (va_Nw.use rfl (hT.2.2.2.2 "java/lang/Exception" (by decide +kernel))) (vx_c (va_Nw.use rfl (hT.2.2.2.2 Bundle.tN (by decide +kernel))) vx_n))))) (by decide +kernel) hT.1 hT.2.1 hS (hl.1.trans hml.symm) dX2_requireRange_10 dX2_requireRange_13 dX2_requireRange_14 dX2_requireRange_16 dX2_requireRange_19 (fun x h => (hex x h).elim) (Nat.le_of_ble_eq_true rfl) (Nat.le_of_ble_eq_true rfl) (Nat.le_of_ble_eq_true rfl) (Nat.le_of_ble_eq_true rfl) hlocks (fun t hvm h1 h2 => ?_) hS.2.2 (Nat.le_of_ble_eq_true rfl) (Nat.le_of_ble_eq_true rfl)
    obtain ⟨⟨a1, a2⟩, a3⟩ := kv_thrown hP hD hS h1 h2
    exact ⟨2, e, ⟨by decide +kernel, a1, by rw [hAe]; exact a2⟩, a3⟩
  · have e := e.trans (if_neg c_2)
    refine lv_iload_n hx hb dX2_requireRange_5 rfl (lv_at hl 0 rfl) ?_
    refine lv_iload_n hx hb dX2_requireRange_6 rfl (lv_at hl 2 rfl) ?_
    refine lv_icmp_le (tgt := 20) hx hb dX2_requireRange_7 (by decide) (fun c_7 => ?_) (fun c_7 => ?_)
    · have e := e.trans (if_pos c_7)
      rw [hQ]
      refine W.widen (k := 1) (n := 6) (Nat.le_of_ble_eq_true rfl) (Nat.le_of_ble_eq_true rfl) ?_
      refine vx_ret ?_
      exact W.vret hx hb hr (fun t ht hW => ⟨⟨(), rfl, e, ⟨by rw [ht]; exact hP, by rw [hAe]; exact hD⟩⟩, hS.F ht⟩) hS.2.2 dX2_requireRange_20
    · have e := e.trans (if_neg c_7)
      rw [hQ]
      obtain ⟨sa9, hs9⟩ := hT.2.2.1 (180, "an argument is out of its range") (by decide +kernel)
      have hg9 : ∀ w ∈ (vx_atS RX2 182 "java/lang/IllegalArgumentException" ["java/lang/RuntimeException", "java/lang/Exception"]).filter goodWord, w ∈ wsX2_requireRange := by decide +kernel
      refine vx_throwS hx hb hl9 (own := RX2) (cls := "java/lang/IllegalArgumentException") (text := "an argument is out of its range") (names := ["java/lang/RuntimeException", "java/lang/Exception"]) (ik := 178) (is := 180) (ic := 182) (A := A) hown (by decide +kernel) (by decide +kernel) (hts (.classLink RX2 178 "java/lang/IllegalArgumentException") (by decide +kernel)) (hts (.initialized "java/lang/IllegalArgumentException") (by decide +kernel)) hs9 (vx_hat (B := [.castable "java/lang/IllegalArgumentException" "java/lang/IllegalArgumentException", .declares (Bundle.initS "java/lang/RuntimeException"), .declares (Bundle.initS "java/lang/Exception"), .declares (Bundle.initS Bundle.tN)]) (fun w hw => hts w (hg9 w hw)) (by decide +kernel) (vx_c (va_Nw.use rfl (hT.2.2.2.1 2)) (vx_c (va_Nw.use rfl (hT.2.2.2.2 "java/lang/RuntimeException" (by decide +kernel))) (vx_c (va_Nw.use rfl (hT.2.2.2.2 "java/lang/Exception" (by decide +kernel))) (vx_c (va_Nw.use rfl (hT.2.2.2.2 Bundle.tN (by decide +kernel))) vx_n))))) (by decide +kernel) hT.1 hT.2.1 hS (hl.1.trans hml.symm) dX2_requireRange_10 dX2_requireRange_13 dX2_requireRange_14 dX2_requireRange_16 dX2_requireRange_19 (fun x h => (hex x h).elim) (Nat.le_of_ble_eq_true rfl) (Nat.le_of_ble_eq_true rfl) (Nat.le_of_ble_eq_true rfl) (Nat.le_of_ble_eq_true rfl) hlocks (fun t hvm h1 h2 => ?_) hS.2.2 (Nat.le_of_ble_eq_true rfl) (Nat.le_of_ble_eq_true rfl)
      obtain ⟨⟨a1, a2⟩, a3⟩ := kv_thrown hP hD hS h1 h2
      exact ⟨2, e, ⟨by decide +kernel, a1, by rw [hAe]; exact a2⟩, a3⟩

def pf_X2_requireCount (n : Nat) (qc : Nat → Int32) (p0 : Nat) (p1 : Int32)  : Option ((Unit) ⊕ Nat) :=
  if p1 ≤ (qc p0) then some (.inl ()) else some (.inr 3)
abbrev rmX2_requireCount : Room := { frames := 6, cells := 1, slots := 6, locals := 82 }
set_option maxHeartbeats 4000000 in
set_option maxRecDepth 100000 in
theorem c_X2_requireCount (l : Launch) (hl9 : l.stackTraces = false) (D : va_G) (ci ad : Nat → Nat) (kc : Nat → Int32) (kh : Nat → Int32) (ks : Nat → Int32) (fo : Nat → Nat → Int32) (kl : Nat → Int32) (kp : Nat → Int32) (dy : Int32) (mo : Int32) (n : Nat) (pa : Nat → Nat) (aE : Nat) (qp : Nat → Int32) (qm : Nat → Int32) (ql : Nat → Int32) (qv : Nat → Int32) (qc : Nat → Int32) (qe : Nat → Int32) (mt : Nat → Int32) (mv : Nat → Int32) (sw : Nat → Int32) (hv : Int32) (tk : Nat → Int32) (tn : Nat → Int32) (sc : Nat → Int32) (p0 : Nat) (p1 : Int32) (hp0 : p0 < n) (hRn : pf_X2_requireCount n qc p0 p1 ≠ none) (sz : Nat) : vx_Met l yX2_requireCount wsX2_requireCount rmX2_requireCount (va_Pc [.ref (pa p0), .int p1] (kv_preX D ci (kv_kw ci ad kc kh ks fo kl kp dy mo n pa aE qp qm ql qv qc qe mt mv sw hv tk tn sc) sz))  (va_Qv (fun (u : Unit) => pf_X2_requireCount n qc p0 p1 = some (.inl (u))) (fun u t => kv_post D (kv_kw ci ad kc kh ks fo kl kp dy mo n pa aE qp qm ql qv qc qe mt mv sw hv tk tn sc) sz (kv_kw ci ad kc kh ks fo kl kp dy mo n pa aE qp qm ql qv qc qe mt mv sw hv tk tn sc) t) (va_A (kv_kw ci ad kc kh ks fo kl kp dy mo n pa aE qp qm ql qv qc qe mt mv sw hv tk tn sc) sz)) (vx_X (fun u : Nat => pf_X2_requireCount n qc p0 p1 = some (.inr u)) (fun E u t => E = kv_ex u ∧ kv_post D (kv_kw ci ad kc kh ks fo kl kp dy mo n pa aE qp qm ql qv qc qe mt mv sw hv tk tn sc) sz (kv_kw ci ad kc kh ks fo kl kp dy mo n pa aE qp qm ql qv qc qe mt mv sw hv tk tn sc) t) (va_A (kv_kw ci ad kc kh ks fo kl kp dy mo n pa aE qp qm ql qv qc qe mt mv sw hv tk tn sc) sz)) 1 6 (va_A (kv_kw ci ad kc kh ks fo kl kp dy mo n pa aE qp qm ql qv qc qe mt mv sw hv tk tn sc) sz) := by
  refine vx_ofW (cc := cX2_requireCount) (maxL := 2) (ret := none) (by decide) rfl ?_
  intro p en s m args below meth c s₁ B hml hex hv
  obtain ⟨hv0, ⟨hsz, hP, hK, hD0⟩, hT⟩ := hv
  have hx := B.exec
  have hb := B.bytes
  have hr := B.returns
  have hts := atoms_spec (ws := wsX2_requireCount) B.pre
  have hown : s.vm.findClass RX2 = some m.cls := findClass_of_methodNamed B.named
  have hlocks := B.notSynchronized
  subst hsz
  have hD := hD0.self (sz := s.heap.size)
  generalize hAe : va_A (kv_kw ci ad kc kh ks fo kl kp dy mo n pa aE qp qm ql qv qc qe mt mv sw hv tk tn sc) s.heap.size = A at hD hT ⊢
  have hA : ∀ q : Nat, s.heap.size ≤ q → A q := fun q h => by rw [← hAe]; exact Or.inr h
  have hS : va_S A s.heap s.heap [] := va_S.rf
  have hP : va_P D vwCl (kv_kw ci ad kc kh ks fo kl kp dy mo n pa aE qp qm ql qv qc qe mt mv sw hv tk tn sc) s.heap := hP
  have hinRX1 : ∀ w ∈ u_ws RX1 TX1 6, w ∈ wsX2_requireCount := by decide +kernel
  generalize hRd : pf_X2_requireCount n qc p0 p1 = Rz at hRn
  have hRz := hRn
  refine kv_Q (fun Q hQ => ?_)
  refine W.eq (show entryFrame m args 2 = _ from by rw [hv0, lg_entry_eq]) ?_
  have hl := lv_entry ([.ref (pa p0), .int p1]) (n := 2) (Nat.le_of_ble_eq_true rfl)
  generalize (lg_sl ([.ref (pa p0), .int p1]) ++ List.replicate (2 - (lg_sl ([.ref (pa p0), .int p1])).length) Slot.unset).toArray = ls at hl ⊢
  have hl : lv_has ls 2 [(0, .ref (pa p0)), (1, .int p1)] := hl
  have e : Rz = pf_X2_requireCount n qc p0 p1 := hRd.symm
  rw [pf_X2_requireCount] at e
  refine lv_aload_n hx hb dX2_requireCount_0 rfl (lv_at hl 0 rfl) ?_
  refine va_get (D := D) (ci := 2) (v := .int (qc p0)) (C := RX1) (T := TX1) (N := 6) hx hb hts hinRX1 hown hK hP (24 + p0) (kv_rt hp0) rfl 4 (by decide) (hts (.fieldLink RX2 112 "LicenceKeeper$Right" "count" "I") (by decide +kernel)) (fun _ h9 => h9) rfl dX2_requireCount_1 ?_
  refine lv_iload_n hx hb dX2_requireCount_4 rfl (lv_at hl 1 rfl) ?_
  refine lv_icmp_ge (tgt := 18) hx hb dX2_requireCount_5 (by decide) (fun c_5 => ?_) (fun c_5 => ?_)
  · have e := e.trans (if_pos c_5)
    rw [hQ]
    refine W.widen (k := 1) (n := 6) (Nat.le_of_ble_eq_true rfl) (Nat.le_of_ble_eq_true rfl) ?_
    refine vx_ret ?_
    exact W.vret hx hb hr (fun t ht hW => ⟨⟨(), rfl, e, ⟨by rw [ht]; exact hP, by rw [hAe]; exact hD⟩⟩, hS.F ht⟩) hS.2.2 dX2_requireCount_18
  · have e := e.trans (if_neg c_5)
    rw [hQ]
    obtain ⟨sa9, hs9⟩ := hT.2.2.1 (183, "the right has a lesser count") (by decide +kernel)
    have hg9 : ∀ w ∈ (vx_atS RX2 73 "java/lang/IllegalStateException" ["java/lang/RuntimeException", "java/lang/Exception"]).filter goodWord, w ∈ wsX2_requireCount := by decide +kernel
    refine vx_throwS hx hb hl9 (own := RX2) (cls := "java/lang/IllegalStateException") (text := "the right has a lesser count") (names := ["java/lang/RuntimeException", "java/lang/Exception"]) (ik := 69) (is := 183) (ic := 73) (A := A) hown (by decide +kernel) (by decide +kernel) (hts (.classLink RX2 69 "java/lang/IllegalStateException") (by decide +kernel)) (hts (.initialized "java/lang/IllegalStateException") (by decide +kernel)) hs9 (vx_hat (B := [.castable "java/lang/IllegalStateException" "java/lang/IllegalStateException", .declares (Bundle.initS "java/lang/RuntimeException"), .declares (Bundle.initS "java/lang/Exception"), .declares (Bundle.initS Bundle.tN)]) (fun w hw => hts w (hg9 w hw)) (by decide +kernel) (vx_c (va_Nw.use rfl (hT.2.2.2.1 3)) (vx_c (va_Nw.use rfl (hT.2.2.2.2 "java/lang/RuntimeException" (by decide +kernel))) (vx_c (va_Nw.use rfl (hT.2.2.2.2 "java/lang/Exception" (by decide +kernel))) (vx_c (va_Nw.use rfl (hT.2.2.2.2 Bundle.tN (by decide +kernel))) vx_n))))) (by decide +kernel) hT.1 hT.2.1 hS (hl.1.trans hml.symm) dX2_requireCount_8 dX2_requireCount_11 dX2_requireCount_12 dX2_requireCount_14 dX2_requireCount_17 (fun x h => (hex x h).elim) (Nat.le_of_ble_eq_true rfl) (Nat.le_of_ble_eq_true rfl) (Nat.le_of_ble_eq_true rfl) (Nat.le_of_ble_eq_true rfl) hlocks (fun t hvm h1 h2 => ?_) hS.2.2 (Nat.le_of_ble_eq_true rfl) (Nat.le_of_ble_eq_true rfl)
    obtain ⟨⟨a1, a2⟩, a3⟩ := kv_thrown hP hD hS h1 h2
    exact ⟨3, e, ⟨by decide +kernel, a1, by rw [hAe]; exact a2⟩, a3⟩

def pf_X2_requireRoomForRight (n : Nat)  : Option ((Unit) ⊕ Nat) :=
  if (nI n) < 12 then some (.inl ()) else some (.inr 3)
abbrev rmX2_requireRoomForRight : Room := { frames := 6, cells := 1, slots := 6, locals := 82 }
set_option maxHeartbeats 4000000 in
set_option maxRecDepth 100000 in
theorem c_X2_requireRoomForRight (l : Launch) (hl9 : l.stackTraces = false) (D : va_G) (ci ad : Nat → Nat) (kc : Nat → Int32) (kh : Nat → Int32) (ks : Nat → Int32) (fo : Nat → Nat → Int32) (kl : Nat → Int32) (kp : Nat → Int32) (dy : Int32) (mo : Int32) (n : Nat) (pa : Nat → Nat) (aE : Nat) (qp : Nat → Int32) (qm : Nat → Int32) (ql : Nat → Int32) (qv : Nat → Int32) (qc : Nat → Int32) (qe : Nat → Int32) (mt : Nat → Int32) (mv : Nat → Int32) (sw : Nat → Int32) (hv : Int32) (tk : Nat → Int32) (tn : Nat → Int32) (sc : Nat → Int32)   (hRn : pf_X2_requireRoomForRight n ≠ none) (sz : Nat) : vx_Met l yX2_requireRoomForRight wsX2_requireRoomForRight rmX2_requireRoomForRight (va_Pc [.ref (ad 0)] (kv_preX D ci (kv_kw ci ad kc kh ks fo kl kp dy mo n pa aE qp qm ql qv qc qe mt mv sw hv tk tn sc) sz))  (va_Qv (fun (u : Unit) => pf_X2_requireRoomForRight n = some (.inl (u))) (fun u t => kv_post D (kv_kw ci ad kc kh ks fo kl kp dy mo n pa aE qp qm ql qv qc qe mt mv sw hv tk tn sc) sz (kv_kw ci ad kc kh ks fo kl kp dy mo n pa aE qp qm ql qv qc qe mt mv sw hv tk tn sc) t) (va_A (kv_kw ci ad kc kh ks fo kl kp dy mo n pa aE qp qm ql qv qc qe mt mv sw hv tk tn sc) sz)) (vx_X (fun u : Nat => pf_X2_requireRoomForRight n = some (.inr u)) (fun E u t => E = kv_ex u ∧ kv_post D (kv_kw ci ad kc kh ks fo kl kp dy mo n pa aE qp qm ql qv qc qe mt mv sw hv tk tn sc) sz (kv_kw ci ad kc kh ks fo kl kp dy mo n pa aE qp qm ql qv qc qe mt mv sw hv tk tn sc) t) (va_A (kv_kw ci ad kc kh ks fo kl kp dy mo n pa aE qp qm ql qv qc qe mt mv sw hv tk tn sc) sz)) 1 6 (va_A (kv_kw ci ad kc kh ks fo kl kp dy mo n pa aE qp qm ql qv qc qe mt mv sw hv tk tn sc) sz) := by
  refine vx_ofW (cc := cX2_requireRoomForRight) (maxL := 1) (ret := none) (by decide) rfl ?_
  intro p en s m args below meth c s₁ B hml hex hv
  obtain ⟨hv0, ⟨hsz, hP, hK, hD0⟩, hT⟩ := hv
  have hx := B.exec
  have hb := B.bytes
  have hr := B.returns
  have hts := atoms_spec (ws := wsX2_requireRoomForRight) B.pre
  have hown : s.vm.findClass RX2 = some m.cls := findClass_of_methodNamed B.named
  have hlocks := B.notSynchronized
  subst hsz
  have hD := hD0.self (sz := s.heap.size)
  generalize hAe : va_A (kv_kw ci ad kc kh ks fo kl kp dy mo n pa aE qp qm ql qv qc qe mt mv sw hv tk tn sc) s.heap.size = A at hD hT ⊢
  have hA : ∀ q : Nat, s.heap.size ≤ q → A q := fun q h => by rw [← hAe]; exact Or.inr h
  have hS : va_S A s.heap s.heap [] := va_S.rf
  have hP : va_P D vwCl (kv_kw ci ad kc kh ks fo kl kp dy mo n pa aE qp qm ql qv qc qe mt mv sw hv tk tn sc) s.heap := hP
  have hinRX2 : ∀ w ∈ u_ws RX2 TX2 9, w ∈ wsX2_requireRoomForRight := by decide +kernel
  generalize hRd : pf_X2_requireRoomForRight n = Rz at hRn
  have hRz := hRn
  refine kv_Q (fun Q hQ => ?_)
  refine W.eq (show entryFrame m args 1 = _ from by rw [hv0, lg_entry_eq]) ?_
  have hl := lv_entry ([.ref (ad 0)]) (n := 1) (Nat.le_of_ble_eq_true rfl)
  generalize (lg_sl ([.ref (ad 0)]) ++ List.replicate (1 - (lg_sl ([.ref (ad 0)])).length) Slot.unset).toArray = ls at hl ⊢
  have hl : lv_has ls 1 [(0, .ref (ad 0))] := hl
  have e : Rz = pf_X2_requireRoomForRight n := hRd.symm
  rw [pf_X2_requireRoomForRight] at e
  refine lv_aload_n hx hb dX2_requireRoomForRight_0 rfl (lv_at hl 0 rfl) ?_
  refine va_get (D := D) (ci := 3) (v := .ref (ad 7)) (C := RX2) (T := TX2) (N := 9) hx hb hts hinRX2 hown hK hP 0 rfl rfl 6 (by decide) (hts (.fieldLink RX2 33 "LicenceKeeper" "held" "Ljava/util/ArrayList;") (by decide +kernel)) (fun _ h9 => h9) rfl dX2_requireRoomForRight_1 ?_
  refine kv_calli (va_runV (As := []) (rest := []) ⟨hx, hb, hml, hown, hts⟩ (c_K_size l D ci ad kc kh ks fo kl kp dy mo n pa aE qp qm ql qv qc qe mt mv sw hv tk tn sc s.heap.size) (cwV 0 hts gX2_requireRoomForRight_Jx4a65c_size_8abf5 rfl rfl rfl (by decide +kernel) ⟨Nat.le_of_ble_eq_true rfl, Nat.le_of_ble_eq_true rfl⟩) (kv_preV hK hP hD (r := (RJx4a65c, TJx4a65c, 3)) (q0 := 7) (k := 0) rfl rfl rfl) rfl rfl hl.1 rfl (lv_room (Nat.le_of_ble_eq_true rfl)) dX2_requireRoomForRight_4 ⟨Nat.le_of_ble_eq_true rfl, Nat.le_of_ble_eq_true rfl⟩) hD hS hA (fun r_4 u_4 H locs hw_4 hP hD hS => ?_)
  subst hw_4
  refine lv_bipush (v := 12) hx hb dX2_requireRoomForRight_7 (by decide) ?_
  refine lv_icmp_lt (tgt := 22) hx hb dX2_requireRoomForRight_9 (by decide) (fun c_9 => ?_) (fun c_9 => ?_)
  · have e := e.trans (if_pos c_9)
    rw [hQ]
    refine W.widen (k := 1) (n := 6) (Nat.le_of_ble_eq_true rfl) (Nat.le_of_ble_eq_true rfl) ?_
    refine vx_ret ?_
    exact W.vret hx hb hr (fun t ht hW => ⟨⟨(), rfl, e, ⟨by rw [ht]; exact hP, by rw [hAe]; exact hD⟩⟩, hS.F ht⟩) hS.2.2 dX2_requireRoomForRight_22
  · have e := e.trans (if_neg c_9)
    rw [hQ]
    obtain ⟨sa9, hs9⟩ := hT.2.2.1 (185, "there are as many rights as there can be") (by decide +kernel)
    have hg9 : ∀ w ∈ (vx_atS RX2 73 "java/lang/IllegalStateException" ["java/lang/RuntimeException", "java/lang/Exception"]).filter goodWord, w ∈ wsX2_requireRoomForRight := by decide +kernel
    refine vx_throwS hx hb hl9 (own := RX2) (cls := "java/lang/IllegalStateException") (text := "there are as many rights as there can be") (names := ["java/lang/RuntimeException", "java/lang/Exception"]) (ik := 69) (is := 185) (ic := 73) (A := A) hown (by decide +kernel) (by decide +kernel) (hts (.classLink RX2 69 "java/lang/IllegalStateException") (by decide +kernel)) (hts (.initialized "java/lang/IllegalStateException") (by decide +kernel)) hs9 (vx_hat (B := [.castable "java/lang/IllegalStateException" "java/lang/IllegalStateException", .declares (Bundle.initS "java/lang/RuntimeException"), .declares (Bundle.initS "java/lang/Exception"), .declares (Bundle.initS Bundle.tN)]) (fun w hw => hts w (hg9 w hw)) (by decide +kernel) (vx_c (va_Nw.use rfl (hT.2.2.2.1 3)) (vx_c (va_Nw.use rfl (hT.2.2.2.2 "java/lang/RuntimeException" (by decide +kernel))) (vx_c (va_Nw.use rfl (hT.2.2.2.2 "java/lang/Exception" (by decide +kernel))) (vx_c (va_Nw.use rfl (hT.2.2.2.2 Bundle.tN (by decide +kernel))) vx_n))))) (by decide +kernel) hT.1 hT.2.1 hS (hl.1.trans hml.symm) dX2_requireRoomForRight_12 dX2_requireRoomForRight_15 dX2_requireRoomForRight_16 dX2_requireRoomForRight_18 dX2_requireRoomForRight_21 (fun x h => (hex x h).elim) (Nat.le_of_ble_eq_true rfl) (Nat.le_of_ble_eq_true rfl) (Nat.le_of_ble_eq_true rfl) (Nat.le_of_ble_eq_true rfl) hlocks (fun t hvm h1 h2 => ?_) hS.2.2 (Nat.le_of_ble_eq_true rfl) (Nat.le_of_ble_eq_true rfl)
    obtain ⟨⟨a1, a2⟩, a3⟩ := kv_thrown hP hD hS h1 h2
    exact ⟨3, e, ⟨by decide +kernel, a1, by rw [hAe]; exact a2⟩, a3⟩

def pf_X2_isHost_2b (kh : Nat → Int32) (p0 : Int32)  (k_2 : Int32 → Option (Int32)) (x2 : Int32)  : Option (Int32) :=
  if 8 ≤ x2 then some (0) else kv_G x2 8 (kv_T (kh x2.toNatClampNeg) (fun y_13 => if y_13 = p0 then some (1) else k_2 (x2 + 1)))
def pf_X2_isHost_2 (kh : Nat → Int32) (p0 : Int32)  : Nat → Int32 → Option (Int32)
  | 0, _ => none
  | nn + 1, x2 => pf_X2_isHost_2b kh p0  (pf_X2_isHost_2 kh p0  nn) x2
def pf_X2_isHost (kh : Nat → Int32) (p0 : Int32)  : Option (Int32) :=
  pf_X2_isHost_2 kh p0 kv_F 0
abbrev rmX2_isHost : Room := { frames := 0, cells := 0, slots := 0, locals := 0 }
set_option maxHeartbeats 4000000 in
set_option maxRecDepth 100000 in
theorem c_X2_isHost (l : Launch) (D : va_G) (ci ad : Nat → Nat) (kc : Nat → Int32) (kh : Nat → Int32) (ks : Nat → Int32) (fo : Nat → Nat → Int32) (kl : Nat → Int32) (kp : Nat → Int32) (dy : Int32) (mo : Int32) (n : Nat) (pa : Nat → Nat) (aE : Nat) (qp : Nat → Int32) (qm : Nat → Int32) (ql : Nat → Int32) (qv : Nat → Int32) (qc : Nat → Int32) (qe : Nat → Int32) (mt : Nat → Int32) (mv : Nat → Int32) (sw : Nat → Int32) (hv : Int32) (tk : Nat → Int32) (tn : Nat → Int32) (sc : Nat → Int32) (p0 : Int32)  (hRn : pf_X2_isHost kh p0 ≠ none) (sz : Nat) : Met l yX2_isHost wsX2_isHost rmX2_isHost (va_Pc [.ref (ad 0), .int p0] (kv_pre D ci (kv_kw ci ad kc kh ks fo kl kp dy mo n pa aE qp qm ql qv qc qe mt mv sw hv tk tn sc) sz)) (va_Qi (fun (r : Int32) (u : Unit) => pf_X2_isHost kh p0 = some (r)) (fun u t => kv_post D (kv_kw ci ad kc kh ks fo kl kp dy mo n pa aE qp qm ql qv qc qe mt mv sw hv tk tn sc) sz (kv_kw ci ad kc kh ks fo kl kp dy mo n pa aE qp qm ql qv qc qe mt mv sw hv tk tn sc) t) (va_A (kv_kw ci ad kc kh ks fo kl kp dy mo n pa aE qp qm ql qv qc qe mt mv sw hv tk tn sc) sz)) 0 0 (va_A (kv_kw ci ad kc kh ks fo kl kp dy mo n pa aE qp qm ql qv qc qe mt mv sw hv tk tn sc) sz) := by
  refine Met.ofW (cc := cX2_isHost) (maxL := 3) (ret := (some .boolean)) (by decide) rfl ?_
  intro p en s m args below meth c s₁ B hml hv
  obtain ⟨hv0, hsz, hP, hK, hD0⟩ := hv
  have hx := B.exec
  have hb := B.bytes
  have hr := B.returns
  have hts := atoms_spec (ws := wsX2_isHost) B.pre
  have hown : s.vm.findClass RX2 = some m.cls := findClass_of_methodNamed B.named
  have hlocks := B.notSynchronized
  subst hsz
  have hD := hD0.self (sz := s.heap.size)
  generalize hAe : va_A (kv_kw ci ad kc kh ks fo kl kp dy mo n pa aE qp qm ql qv qc qe mt mv sw hv tk tn sc) s.heap.size = A at hD ⊢
  have hA : ∀ q : Nat, s.heap.size ≤ q → A q := fun q h => by rw [← hAe]; exact Or.inr h
  have hS : va_S A s.heap s.heap [] := va_S.rf
  have hP : va_P D vwCl (kv_kw ci ad kc kh ks fo kl kp dy mo n pa aE qp qm ql qv qc qe mt mv sw hv tk tn sc) s.heap := hP
  have hinRX2 : ∀ w ∈ u_ws RX2 TX2 9, w ∈ wsX2_isHost := by decide +kernel
  generalize hRd : pf_X2_isHost kh p0 = Rz at hRn
  have hRz := hRn
  refine kv_Q (fun Q hQ => ?_)
  refine W.eq (show entryFrame m args 3 = _ from by rw [hv0, lg_entry_eq]) ?_
  have hl := lv_entry ([.ref (ad 0), .int p0]) (n := 3) (Nat.le_of_ble_eq_true rfl)
  generalize (lg_sl ([.ref (ad 0), .int p0]) ++ List.replicate (3 - (lg_sl ([.ref (ad 0), .int p0])).length) Slot.unset).toArray = ls at hl ⊢
  have hl : lv_has ls 3 [(0, .ref (ad 0)), (1, .int p0)] := hl
  have e : Rz = pf_X2_isHost kh p0 := hRd.symm
  rw [pf_X2_isHost] at e
  have hb_2 : ∀ (n_2 : Nat), ∀ (x2 : Int32) (H : Heap) (locs : List Loc) (ls : Array Slot), va_P D vwCl (kv_kw ci ad kc kh ks fo kl kp dy mo n pa aE qp qm ql qv qc qe mt mv sw hv tk tn sc) H → va_D A (kv_kw ci ad kc kh ks fo kl kp dy mo n pa aE qp qm ql qv qc qe mt mv sw hv tk tn sc) → va_S A s.heap H locs → lv_has ls 3 [(0, .ref (ad 0)), (1, .int p0), (2, .int x2)] → Rz = pf_X2_isHost_2 kh p0  n_2 x2 → W p l en rmX2_isHost s m args below meth c H locs 0 0 Q (F0 m 2 ls []) := by
    intro n_2
    induction n_2 with
    | zero =>
      intro x2 H locs ls  _ _ _ _ e
      exact absurd e hRz
    | succ n_2 ih_2 =>
      intro x2 H locs ls  hP hD hS hl e
      rw [pf_X2_isHost_2, pf_X2_isHost_2b] at e
      refine lv_iload_n hx hb dX2_isHost_2 rfl (lv_at hl 2 rfl) ?_
      refine lv_bipush (v := 8) hx hb dX2_isHost_3 (by decide) ?_
      refine lv_icmp_ge (tgt := 26) hx hb dX2_isHost_5 (by decide) (fun c_5 => ?_) (fun c_5 => ?_)
      · have e := e.trans (if_pos c_5)
        refine lv_iconst (v := 0) hx hb dX2_isHost_26 (by decide) ?_
        rw [hQ]
        exact W.zret (v := 0) hx hb hr (by decide +kernel) (fun t ht hW => ⟨⟨0, (), rfl, e, ⟨by rw [ht]; exact hP, by rw [hAe]; exact hD⟩⟩, hS.F ht⟩) hS.2.2 dX2_isHost_27
      · have e := e.trans (if_neg c_5)
        refine lv_aload_n hx hb dX2_isHost_8 rfl (lv_at hl 0 rfl) ?_
        refine va_get (D := D) (ci := 3) (v := .ref (ad 2)) (C := RX2) (T := TX2) (N := 9) hx hb hts hinRX2 hown hK hP 0 rfl rfl 1 (by decide) (hts (.fieldLink RX2 13 "LicenceKeeper" "hosts" "[I") (by decide +kernel)) (fun _ h9 => h9) rfl dX2_isHost_9 ?_
        refine lv_iload_n hx hb dX2_isHost_12 rfl (lv_at hl 2 rfl) ?_
        obtain ⟨hi_13, e⟩ := kv_G_e e hRz
        refine kv_iald hx hb hK hP 2 0 hi_13 dX2_isHost_13 rfl rfl (fun y_13 ey_13 => ?_)
        have e := kv_T_e e ey_13
        refine lv_iload_n hx hb dX2_isHost_14 rfl (lv_at hl 1 rfl) ?_
        refine lv_icmp_ne (tgt := 20) hx hb dX2_isHost_15 (by decide) (fun c_15 => ?_) (fun c_15 => ?_)
        · have e := e.trans (if_neg c_15)
          refine lv_iinc (v := x2 + 1) (lv' := [(2, .int (x2 + 1)), (0, .ref (ad 0)), (1, .int p0)]) hx hb dX2_isHost_20 hl (k := 2) rfl rfl (by decide) rfl (fun ls hl => ?_)
          refine lv_goto (tgt := 2) hx hb dX2_isHost_23 (by decide) ?_
          exact ih_2 (x2 + 1) _ _ _  hP hD hS (lv_sub hl [1, 2, 0] rfl) e
        · have e := e.trans (if_pos c_15)
          refine lv_iconst (v := 1) hx hb dX2_isHost_18 (by decide) ?_
          rw [hQ]
          exact W.zret (v := 1) hx hb hr (by decide +kernel) (fun t ht hW => ⟨⟨1, (), rfl, e, ⟨by rw [ht]; exact hP, by rw [hAe]; exact hD⟩⟩, hS.F ht⟩) hS.2.2 dX2_isHost_19
  refine lv_iconst (v := 0) hx hb dX2_isHost_0 (by decide) ?_
  refine lv_istore_n (lv' := [(2, .int 0), (0, .ref (ad 0)), (1, .int p0)]) hx hb dX2_isHost_1 rfl hl (by decide) rfl (fun ls hl => ?_)
  exact hb_2 kv_F 0 _ _ _  hP hD hS (lv_sub hl [1, 2, 0] rfl) e

def pf_X2_requireMovable (kh : Nat → Int32) (p0 : Int32) (p1 : Int32)  : Option ((Unit) ⊕ Nat) :=
  kv_x0 (pf_X2_requireMachine p0) (if p1 = (-1) then some (.inl ()) else kv_x0 (pf_X2_requireMachine p1) (if p0 = p1 then some (.inr 2) else kv_q1 (pf_X2_isHost kh p0) (fun r_31 => if r_31 = 0 then kv_G p1 8 (kv_T (kh p1.toNatClampNeg) (fun y_42 => if y_42 = (-1) then some (.inl ()) else some (.inr 3))) else some (.inr 3))))
abbrev rmX2_requireMovable : Room := { frames := 7, cells := 3, slots := 18, locals := 102 }
set_option maxHeartbeats 4000000 in
set_option maxRecDepth 100000 in
theorem c_X2_requireMovable (l : Launch) (hl9 : l.stackTraces = false) (D : va_G) (ci ad : Nat → Nat) (kc : Nat → Int32) (kh : Nat → Int32) (ks : Nat → Int32) (fo : Nat → Nat → Int32) (kl : Nat → Int32) (kp : Nat → Int32) (dy : Int32) (mo : Int32) (n : Nat) (pa : Nat → Nat) (aE : Nat) (qp : Nat → Int32) (qm : Nat → Int32) (ql : Nat → Int32) (qv : Nat → Int32) (qc : Nat → Int32) (qe : Nat → Int32) (mt : Nat → Int32) (mv : Nat → Int32) (sw : Nat → Int32) (hv : Int32) (tk : Nat → Int32) (tn : Nat → Int32) (sc : Nat → Int32) (p0 : Int32) (p1 : Int32)  (hRn : pf_X2_requireMovable kh p0 p1 ≠ none) (sz : Nat) : vx_Met l yX2_requireMovable wsX2_requireMovable rmX2_requireMovable (va_Pc [.ref (ad 0), .int p0, .int p1] (kv_preX D ci (kv_kw ci ad kc kh ks fo kl kp dy mo n pa aE qp qm ql qv qc qe mt mv sw hv tk tn sc) sz))  (va_Qv (fun (u : Unit) => pf_X2_requireMovable kh p0 p1 = some (.inl (u))) (fun u t => kv_post D (kv_kw ci ad kc kh ks fo kl kp dy mo n pa aE qp qm ql qv qc qe mt mv sw hv tk tn sc) sz (kv_kw ci ad kc kh ks fo kl kp dy mo n pa aE qp qm ql qv qc qe mt mv sw hv tk tn sc) t) (va_A (kv_kw ci ad kc kh ks fo kl kp dy mo n pa aE qp qm ql qv qc qe mt mv sw hv tk tn sc) sz)) (vx_X (fun u : Nat => pf_X2_requireMovable kh p0 p1 = some (.inr u)) (fun E u t => E = kv_ex u ∧ kv_post D (kv_kw ci ad kc kh ks fo kl kp dy mo n pa aE qp qm ql qv qc qe mt mv sw hv tk tn sc) sz (kv_kw ci ad kc kh ks fo kl kp dy mo n pa aE qp qm ql qv qc qe mt mv sw hv tk tn sc) t) (va_A (kv_kw ci ad kc kh ks fo kl kp dy mo n pa aE qp qm ql qv qc qe mt mv sw hv tk tn sc) sz)) 3 18 (va_A (kv_kw ci ad kc kh ks fo kl kp dy mo n pa aE qp qm ql qv qc qe mt mv sw hv tk tn sc) sz) := by
  refine vx_ofW (cc := cX2_requireMovable) (maxL := 3) (ret := none) (by decide) rfl ?_
  intro p en s m args below meth c s₁ B hml hex hv
  obtain ⟨hv0, ⟨hsz, hP, hK, hD0⟩, hT⟩ := hv
  have hx := B.exec
  have hb := B.bytes
  have hr := B.returns
  have hts := atoms_spec (ws := wsX2_requireMovable) B.pre
  have hown : s.vm.findClass RX2 = some m.cls := findClass_of_methodNamed B.named
  have hlocks := B.notSynchronized
  subst hsz
  have hD := hD0.self (sz := s.heap.size)
  generalize hAe : va_A (kv_kw ci ad kc kh ks fo kl kp dy mo n pa aE qp qm ql qv qc qe mt mv sw hv tk tn sc) s.heap.size = A at hD hT ⊢
  have hA : ∀ q : Nat, s.heap.size ≤ q → A q := fun q h => by rw [← hAe]; exact Or.inr h
  have hS : va_S A s.heap s.heap [] := va_S.rf
  have hP : va_P D vwCl (kv_kw ci ad kc kh ks fo kl kp dy mo n pa aE qp qm ql qv qc qe mt mv sw hv tk tn sc) s.heap := hP
  have hinRX2 : ∀ w ∈ u_ws RX2 TX2 9, w ∈ wsX2_requireMovable := by decide +kernel
  generalize hRd : pf_X2_requireMovable kh p0 p1 = Rz at hRn
  have hRz := hRn
  refine kv_Q (fun Q hQ => ?_)
  refine W.eq (show entryFrame m args 3 = _ from by rw [hv0, lg_entry_eq]) ?_
  have hl := lv_entry ([.ref (ad 0), .int p0, .int p1]) (n := 3) (Nat.le_of_ble_eq_true rfl)
  generalize (lg_sl ([.ref (ad 0), .int p0, .int p1]) ++ List.replicate (3 - (lg_sl ([.ref (ad 0), .int p0, .int p1])).length) Slot.unset).toArray = ls at hl ⊢
  have hl : lv_has ls 3 [(0, .ref (ad 0)), (1, .int p0), (2, .int p1)] := hl
  have e : Rz = pf_X2_requireMovable kh p0 p1 := hRd.symm
  rw [pf_X2_requireMovable] at e
  refine lv_iload_n hx hb dX2_requireMovable_0 rfl (lv_at hl 1 rfl) ?_
  refine kv_xcallv (vx_runS (As := [.int p0]) (rest := []) ⟨hx, hb, hml, hown, hts⟩ (c_X2_requireMachine l hl9 D ci ad kc kh ks fo kl kp dy mo n pa aE qp qm ql qv qc qe mt mv sw hv tk tn sc p0 (kv_x0_n e hRz) s.heap.size) (va_cwS 1 hts gX2_requireMovable_X2_requireMachine rfl rfl rfl (by decide +kernel) ⟨Nat.le_of_ble_eq_true rfl, Nat.le_of_ble_eq_true rfl⟩) (kv_preSX hK hP hD hT hS hA) rfl rfl hl.1 rfl (lv_room (Nat.le_of_ble_eq_true rfl)) dX2_requireMovable_1 ⟨Nat.le_of_ble_eq_true rfl, Nat.le_of_ble_eq_true rfl⟩) hD hS hA (fun ce q9 u9 H locs hw9 hP hD hS h1 h2 h3 => ?_) (fun u_1 H locs hw_1 hP hD hS => ?_)
  · rw [hQ]
    exact vx_out (fun x h => (hex x h).elim) hlocks h1 h2 h3 (fun t ht hvm => ⟨u9, kv_x0_t e hw9, ⟨rfl, by rw [ht]; exact hP, by rw [hAe]; exact hD⟩, hS.F ht⟩) hS.2.2 (Nat.le_of_ble_eq_true rfl) (Nat.le_of_ble_eq_true rfl)
  have e := kv_x0_e e hw_1
  refine lv_iload_n hx hb dX2_requireMovable_4 rfl (lv_at hl 2 rfl) ?_
  refine lv_iconst (v := (-1)) hx hb dX2_requireMovable_5 (by decide) ?_
  refine lv_icmp_ne (tgt := 10) hx hb dX2_requireMovable_6 (by decide) (fun c_6 => ?_) (fun c_6 => ?_)
  · have e := e.trans (if_neg c_6)
    refine lv_iload_n hx hb dX2_requireMovable_10 rfl (lv_at hl 2 rfl) ?_
    refine kv_xcallv (vx_runS (As := [.int p1]) (rest := []) ⟨hx, hb, hml, hown, hts⟩ (c_X2_requireMachine l hl9 D ci ad kc kh ks fo kl kp dy mo n pa aE qp qm ql qv qc qe mt mv sw hv tk tn sc p1 (kv_x0_n e hRz) H.size) (va_cwS 1 hts gX2_requireMovable_X2_requireMachine rfl rfl rfl (by decide +kernel) ⟨Nat.le_of_ble_eq_true rfl, Nat.le_of_ble_eq_true rfl⟩) (kv_preSX hK hP hD hT hS hA) rfl rfl hl.1 rfl (lv_room (Nat.le_of_ble_eq_true rfl)) dX2_requireMovable_11 ⟨Nat.le_of_ble_eq_true rfl, Nat.le_of_ble_eq_true rfl⟩) hD hS hA (fun ce q9 u9 H locs hw9 hP hD hS h1 h2 h3 => ?_) (fun u_11 H locs hw_11 hP hD hS => ?_)
    · rw [hQ]
      exact vx_out (fun x h => (hex x h).elim) hlocks h1 h2 h3 (fun t ht hvm => ⟨u9, kv_x0_t e hw9, ⟨rfl, by rw [ht]; exact hP, by rw [hAe]; exact hD⟩, hS.F ht⟩) hS.2.2 (Nat.le_of_ble_eq_true rfl) (Nat.le_of_ble_eq_true rfl)
    have e := kv_x0_e e hw_11
    refine lv_iload_n hx hb dX2_requireMovable_14 rfl (lv_at hl 1 rfl) ?_
    refine lv_iload_n hx hb dX2_requireMovable_15 rfl (lv_at hl 2 rfl) ?_
    refine lv_icmp_ne (tgt := 29) hx hb dX2_requireMovable_16 (by decide) (fun c_16 => ?_) (fun c_16 => ?_)
    · have e := e.trans (if_neg c_16)
      refine lv_aload_n hx hb dX2_requireMovable_29 rfl (lv_at hl 0 rfl) ?_
      refine lv_iload_n hx hb dX2_requireMovable_30 rfl (lv_at hl 1 rfl) ?_
      refine kv_calli (va_runV (As := [.int p0]) (rest := []) ⟨hx, hb, hml, hown, hts⟩ (c_X2_isHost l D ci ad kc kh ks fo kl kp dy mo n pa aE qp qm ql qv qc qe mt mv sw hv tk tn sc p0 (kv_q1_n e hRz) H.size) (cwV 1 hts gX2_requireMovable_X2_isHost rfl rfl rfl (by decide +kernel) ⟨Nat.le_of_ble_eq_true rfl, Nat.le_of_ble_eq_true rfl⟩) (kv_preV hK hP hD (r := (RX2, TX2, 9)) (q0 := 0) (k := 3) rfl rfl rfl) rfl rfl hl.1 rfl (lv_room (Nat.le_of_ble_eq_true rfl)) dX2_requireMovable_31 ⟨Nat.le_of_ble_eq_true rfl, Nat.le_of_ble_eq_true rfl⟩) hD hS hA (fun r_31 u_31 H locs hw_31 hP hD hS => ?_)
      have e := kv_q1_e e hw_31
      refine lv_if_ne (tgt := 47) hx hb dX2_requireMovable_34 (by decide) (fun c_34 => ?_) (fun c_34 => ?_)
      · have e := e.trans (if_neg c_34)
        rw [hQ]
        obtain ⟨sa9, hs9⟩ := hT.2.2.1 (193, "a host has no host") (by decide +kernel)
        have hg9 : ∀ w ∈ (vx_atS RX2 73 "java/lang/IllegalStateException" ["java/lang/RuntimeException", "java/lang/Exception"]).filter goodWord, w ∈ wsX2_requireMovable := by decide +kernel
        refine vx_throwS hx hb hl9 (own := RX2) (cls := "java/lang/IllegalStateException") (text := "a host has no host") (names := ["java/lang/RuntimeException", "java/lang/Exception"]) (ik := 69) (is := 193) (ic := 73) (A := A) hown (by decide +kernel) (by decide +kernel) (hts (.classLink RX2 69 "java/lang/IllegalStateException") (by decide +kernel)) (hts (.initialized "java/lang/IllegalStateException") (by decide +kernel)) hs9 (vx_hat (B := [.castable "java/lang/IllegalStateException" "java/lang/IllegalStateException", .declares (Bundle.initS "java/lang/RuntimeException"), .declares (Bundle.initS "java/lang/Exception"), .declares (Bundle.initS Bundle.tN)]) (fun w hw => hts w (hg9 w hw)) (by decide +kernel) (vx_c (va_Nw.use rfl (hT.2.2.2.1 3)) (vx_c (va_Nw.use rfl (hT.2.2.2.2 "java/lang/RuntimeException" (by decide +kernel))) (vx_c (va_Nw.use rfl (hT.2.2.2.2 "java/lang/Exception" (by decide +kernel))) (vx_c (va_Nw.use rfl (hT.2.2.2.2 Bundle.tN (by decide +kernel))) vx_n))))) (by decide +kernel) hT.1 hT.2.1 hS (hl.1.trans hml.symm) dX2_requireMovable_47 dX2_requireMovable_50 dX2_requireMovable_51 dX2_requireMovable_53 dX2_requireMovable_56 (fun x h => (hex x h).elim) (Nat.le_of_ble_eq_true rfl) (Nat.le_of_ble_eq_true rfl) (Nat.le_of_ble_eq_true rfl) (Nat.le_of_ble_eq_true rfl) hlocks (fun t hvm h1 h2 => ?_) hS.2.2 (Nat.le_of_ble_eq_true rfl) (Nat.le_of_ble_eq_true rfl)
        obtain ⟨⟨a1, a2⟩, a3⟩ := kv_thrown hP hD hS h1 h2
        exact ⟨3, e, ⟨by decide +kernel, a1, by rw [hAe]; exact a2⟩, a3⟩
      · have e := e.trans (if_pos c_34)
        refine lv_aload_n hx hb dX2_requireMovable_37 rfl (lv_at hl 0 rfl) ?_
        refine va_get (D := D) (ci := 3) (v := .ref (ad 2)) (C := RX2) (T := TX2) (N := 9) hx hb hts hinRX2 hown hK hP 0 rfl rfl 1 (by decide) (hts (.fieldLink RX2 13 "LicenceKeeper" "hosts" "[I") (by decide +kernel)) (fun _ h9 => h9) rfl dX2_requireMovable_38 ?_
        refine lv_iload_n hx hb dX2_requireMovable_41 rfl (lv_at hl 2 rfl) ?_
        obtain ⟨hi_42, e⟩ := kv_G_e e hRz
        refine kv_iald hx hb hK hP 2 0 hi_42 dX2_requireMovable_42 rfl rfl (fun y_42 ey_42 => ?_)
        have e := kv_T_e e ey_42
        refine lv_iconst (v := (-1)) hx hb dX2_requireMovable_43 (by decide) ?_
        refine lv_icmp_eq (tgt := 57) hx hb dX2_requireMovable_44 (by decide) (fun c_44 => ?_) (fun c_44 => ?_)
        · have e := e.trans (if_pos c_44)
          rw [hQ]
          refine W.widen (k := 3) (n := 18) (Nat.le_of_ble_eq_true rfl) (Nat.le_of_ble_eq_true rfl) ?_
          refine vx_ret ?_
          exact W.vret hx hb hr (fun t ht hW => ⟨⟨(), rfl, e, ⟨by rw [ht]; exact hP, by rw [hAe]; exact hD⟩⟩, hS.F ht⟩) hS.2.2 dX2_requireMovable_57
        · have e := e.trans (if_neg c_44)
          rw [hQ]
          obtain ⟨sa9, hs9⟩ := hT.2.2.1 (193, "a host has no host") (by decide +kernel)
          have hg9 : ∀ w ∈ (vx_atS RX2 73 "java/lang/IllegalStateException" ["java/lang/RuntimeException", "java/lang/Exception"]).filter goodWord, w ∈ wsX2_requireMovable := by decide +kernel
          refine vx_throwS hx hb hl9 (own := RX2) (cls := "java/lang/IllegalStateException") (text := "a host has no host") (names := ["java/lang/RuntimeException", "java/lang/Exception"]) (ik := 69) (is := 193) (ic := 73) (A := A) hown (by decide +kernel) (by decide +kernel) (hts (.classLink RX2 69 "java/lang/IllegalStateException") (by decide +kernel)) (hts (.initialized "java/lang/IllegalStateException") (by decide +kernel)) hs9 (vx_hat (B := [.castable "java/lang/IllegalStateException" "java/lang/IllegalStateException", .declares (Bundle.initS "java/lang/RuntimeException"), .declares (Bundle.initS "java/lang/Exception"), .declares (Bundle.initS Bundle.tN)]) (fun w hw => hts w (hg9 w hw)) (by decide +kernel) (vx_c (va_Nw.use rfl (hT.2.2.2.1 3)) (vx_c (va_Nw.use rfl (hT.2.2.2.2 "java/lang/RuntimeException" (by decide +kernel))) (vx_c (va_Nw.use rfl (hT.2.2.2.2 "java/lang/Exception" (by decide +kernel))) (vx_c (va_Nw.use rfl (hT.2.2.2.2 Bundle.tN (by decide +kernel))) vx_n))))) (by decide +kernel) hT.1 hT.2.1 hS (hl.1.trans hml.symm) dX2_requireMovable_47 dX2_requireMovable_50 dX2_requireMovable_51 dX2_requireMovable_53 dX2_requireMovable_56 (fun x h => (hex x h).elim) (Nat.le_of_ble_eq_true rfl) (Nat.le_of_ble_eq_true rfl) (Nat.le_of_ble_eq_true rfl) (Nat.le_of_ble_eq_true rfl) hlocks (fun t hvm h1 h2 => ?_) hS.2.2 (Nat.le_of_ble_eq_true rfl) (Nat.le_of_ble_eq_true rfl)
          obtain ⟨⟨a1, a2⟩, a3⟩ := kv_thrown hP hD hS h1 h2
          exact ⟨3, e, ⟨by decide +kernel, a1, by rw [hAe]; exact a2⟩, a3⟩
    · have e := e.trans (if_pos c_16)
      rw [hQ]
      obtain ⟨sa9, hs9⟩ := hT.2.2.1 (187, "a machine is not its own host") (by decide +kernel)
      have hg9 : ∀ w ∈ (vx_atS RX2 182 "java/lang/IllegalArgumentException" ["java/lang/RuntimeException", "java/lang/Exception"]).filter goodWord, w ∈ wsX2_requireMovable := by decide +kernel
      refine vx_throwS hx hb hl9 (own := RX2) (cls := "java/lang/IllegalArgumentException") (text := "a machine is not its own host") (names := ["java/lang/RuntimeException", "java/lang/Exception"]) (ik := 178) (is := 187) (ic := 182) (A := A) hown (by decide +kernel) (by decide +kernel) (hts (.classLink RX2 178 "java/lang/IllegalArgumentException") (by decide +kernel)) (hts (.initialized "java/lang/IllegalArgumentException") (by decide +kernel)) hs9 (vx_hat (B := [.castable "java/lang/IllegalArgumentException" "java/lang/IllegalArgumentException", .declares (Bundle.initS "java/lang/RuntimeException"), .declares (Bundle.initS "java/lang/Exception"), .declares (Bundle.initS Bundle.tN)]) (fun w hw => hts w (hg9 w hw)) (by decide +kernel) (vx_c (va_Nw.use rfl (hT.2.2.2.1 2)) (vx_c (va_Nw.use rfl (hT.2.2.2.2 "java/lang/RuntimeException" (by decide +kernel))) (vx_c (va_Nw.use rfl (hT.2.2.2.2 "java/lang/Exception" (by decide +kernel))) (vx_c (va_Nw.use rfl (hT.2.2.2.2 Bundle.tN (by decide +kernel))) vx_n))))) (by decide +kernel) hT.1 hT.2.1 hS (hl.1.trans hml.symm) dX2_requireMovable_19 dX2_requireMovable_22 dX2_requireMovable_23 dX2_requireMovable_25 dX2_requireMovable_28 (fun x h => (hex x h).elim) (Nat.le_of_ble_eq_true rfl) (Nat.le_of_ble_eq_true rfl) (Nat.le_of_ble_eq_true rfl) (Nat.le_of_ble_eq_true rfl) hlocks (fun t hvm h1 h2 => ?_) hS.2.2 (Nat.le_of_ble_eq_true rfl) (Nat.le_of_ble_eq_true rfl)
      obtain ⟨⟨a1, a2⟩, a3⟩ := kv_thrown hP hD hS h1 h2
      exact ⟨2, e, ⟨by decide +kernel, a1, by rw [hAe]; exact a2⟩, a3⟩
  · have e := e.trans (if_pos c_6)
    rw [hQ]
    refine W.widen (k := 3) (n := 18) (Nat.le_of_ble_eq_true rfl) (Nat.le_of_ble_eq_true rfl) ?_
    refine vx_ret ?_
    exact W.vret hx hb hr (fun t ht hW => ⟨⟨(), rfl, e, ⟨by rw [ht]; exact hP, by rw [hAe]; exact hD⟩⟩, hS.F ht⟩) hS.2.2 dX2_requireMovable_9

def pf_X2_requireFewRights_4b (n : Nat) (qp : Nat → Int32) (qc : Nat → Int32) (p0 : Int32)  (k_4 : Int32 → Int32 → Option ((Unit) ⊕ Nat)) (x2 : Int32) (x3 : Int32)  : Option ((Unit) ⊕ Nat) :=
  if (nI n) ≤ x3 then if x2 ≤ 2 then some (.inl ()) else some (.inr 3) else kv_L x3 n (kv_T x3.toNatClampNeg (fun k_20 => if (qp k_20) = p0 then if (qc k_20) ≤ 0 then k_4 x2 (x3 + 1) else k_4 (x2 + 1) (x3 + 1) else k_4 x2 (x3 + 1)))
def pf_X2_requireFewRights_4 (n : Nat) (qp : Nat → Int32) (qc : Nat → Int32) (p0 : Int32)  : Nat → Int32 → Int32 → Option ((Unit) ⊕ Nat)
  | 0, _, _ => none
  | nn + 1, x2, x3 => pf_X2_requireFewRights_4b n qp qc p0  (pf_X2_requireFewRights_4 n qp qc p0  nn) x2 x3
def pf_X2_requireFewRights (n : Nat) (qp : Nat → Int32) (qc : Nat → Int32) (p0 : Int32)  : Option ((Unit) ⊕ Nat) :=
  pf_X2_requireFewRights_4 n qp qc p0 kv_F 0 0
abbrev rmX2_requireFewRights : Room := { frames := 6, cells := 1, slots := 6, locals := 82 }
set_option maxHeartbeats 4000000 in
set_option maxRecDepth 100000 in
theorem c_X2_requireFewRights (l : Launch) (hl9 : l.stackTraces = false) (D : va_G) (ci ad : Nat → Nat) (kc : Nat → Int32) (kh : Nat → Int32) (ks : Nat → Int32) (fo : Nat → Nat → Int32) (kl : Nat → Int32) (kp : Nat → Int32) (dy : Int32) (mo : Int32) (n : Nat) (pa : Nat → Nat) (aE : Nat) (qp : Nat → Int32) (qm : Nat → Int32) (ql : Nat → Int32) (qv : Nat → Int32) (qc : Nat → Int32) (qe : Nat → Int32) (mt : Nat → Int32) (mv : Nat → Int32) (sw : Nat → Int32) (hv : Int32) (tk : Nat → Int32) (tn : Nat → Int32) (sc : Nat → Int32) (p0 : Int32)  (hRn : pf_X2_requireFewRights n qp qc p0 ≠ none) (sz : Nat) : vx_Met l yX2_requireFewRights wsX2_requireFewRights rmX2_requireFewRights (va_Pc [.ref (ad 0), .int p0] (kv_preX D ci (kv_kw ci ad kc kh ks fo kl kp dy mo n pa aE qp qm ql qv qc qe mt mv sw hv tk tn sc) sz))  (va_Qv (fun (u : Unit) => pf_X2_requireFewRights n qp qc p0 = some (.inl (u))) (fun u t => kv_post D (kv_kw ci ad kc kh ks fo kl kp dy mo n pa aE qp qm ql qv qc qe mt mv sw hv tk tn sc) sz (kv_kw ci ad kc kh ks fo kl kp dy mo n pa aE qp qm ql qv qc qe mt mv sw hv tk tn sc) t) (va_A (kv_kw ci ad kc kh ks fo kl kp dy mo n pa aE qp qm ql qv qc qe mt mv sw hv tk tn sc) sz)) (vx_X (fun u : Nat => pf_X2_requireFewRights n qp qc p0 = some (.inr u)) (fun E u t => E = kv_ex u ∧ kv_post D (kv_kw ci ad kc kh ks fo kl kp dy mo n pa aE qp qm ql qv qc qe mt mv sw hv tk tn sc) sz (kv_kw ci ad kc kh ks fo kl kp dy mo n pa aE qp qm ql qv qc qe mt mv sw hv tk tn sc) t) (va_A (kv_kw ci ad kc kh ks fo kl kp dy mo n pa aE qp qm ql qv qc qe mt mv sw hv tk tn sc) sz)) 1 6 (va_A (kv_kw ci ad kc kh ks fo kl kp dy mo n pa aE qp qm ql qv qc qe mt mv sw hv tk tn sc) sz) := by
  refine vx_ofW (cc := cX2_requireFewRights) (maxL := 5) (ret := none) (by decide) rfl ?_
  intro p en s m args below meth c s₁ B hml hex hv
  obtain ⟨hv0, ⟨hsz, hP, hK, hD0⟩, hT⟩ := hv
  have hx := B.exec
  have hb := B.bytes
  have hr := B.returns
  have hts := atoms_spec (ws := wsX2_requireFewRights) B.pre
  have hown : s.vm.findClass RX2 = some m.cls := findClass_of_methodNamed B.named
  have hlocks := B.notSynchronized
  subst hsz
  have hD := hD0.self (sz := s.heap.size)
  generalize hAe : va_A (kv_kw ci ad kc kh ks fo kl kp dy mo n pa aE qp qm ql qv qc qe mt mv sw hv tk tn sc) s.heap.size = A at hD hT ⊢
  have hA : ∀ q : Nat, s.heap.size ≤ q → A q := fun q h => by rw [← hAe]; exact Or.inr h
  have hS : va_S A s.heap s.heap [] := va_S.rf
  have hP : va_P D vwCl (kv_kw ci ad kc kh ks fo kl kp dy mo n pa aE qp qm ql qv qc qe mt mv sw hv tk tn sc) s.heap := hP
  have hinRX2 : ∀ w ∈ u_ws RX2 TX2 9, w ∈ wsX2_requireFewRights := by decide +kernel
  have hinRX1 : ∀ w ∈ u_ws RX1 TX1 6, w ∈ wsX2_requireFewRights := by decide +kernel
  generalize hRd : pf_X2_requireFewRights n qp qc p0 = Rz at hRn
  have hRz := hRn
  refine kv_Q (fun Q hQ => ?_)
  refine W.eq (show entryFrame m args 5 = _ from by rw [hv0, lg_entry_eq]) ?_
  have hl := lv_entry ([.ref (ad 0), .int p0]) (n := 5) (Nat.le_of_ble_eq_true rfl)
  generalize (lg_sl ([.ref (ad 0), .int p0]) ++ List.replicate (5 - (lg_sl ([.ref (ad 0), .int p0])).length) Slot.unset).toArray = ls at hl ⊢
  have hl : lv_has ls 5 [(0, .ref (ad 0)), (1, .int p0)] := hl
  have e : Rz = pf_X2_requireFewRights n qp qc p0 := hRd.symm
  rw [pf_X2_requireFewRights] at e
  have hb_4 : ∀ (n_4 : Nat), ∀ (x2 : Int32) (x3 : Int32) (H : Heap) (locs : List Loc) (ls : Array Slot), va_P D vwCl (kv_kw ci ad kc kh ks fo kl kp dy mo n pa aE qp qm ql qv qc qe mt mv sw hv tk tn sc) H → va_D A (kv_kw ci ad kc kh ks fo kl kp dy mo n pa aE qp qm ql qv qc qe mt mv sw hv tk tn sc) → va_S A s.heap H locs → lv_has ls 5 [(0, .ref (ad 0)), (1, .int p0), (2, .int x2), (3, .int x3)] → Rz = pf_X2_requireFewRights_4 n qp qc p0  n_4 x2 x3 → W p l en rmX2_requireFewRights s m args below meth c H locs 0 0 Q (F0 m 4 ls []) := by
    intro n_4
    induction n_4 with
    | zero =>
      intro x2 x3 H locs ls  _ _ _ _ e
      exact absurd e hRz
    | succ n_4 ih_4 =>
      intro x2 x3 H locs ls  hP hD hS hl e
      rw [pf_X2_requireFewRights_4, pf_X2_requireFewRights_4b] at e
      refine lv_iload_n hx hb dX2_requireFewRights_4 rfl (lv_at hl 3 rfl) ?_
      refine lv_aload_n hx hb dX2_requireFewRights_5 rfl (lv_at hl 0 rfl) ?_
      refine va_get (D := D) (ci := 3) (v := .ref (ad 7)) (C := RX2) (T := TX2) (N := 9) hx hb hts hinRX2 hown hK hP 0 rfl rfl 6 (by decide) (hts (.fieldLink RX2 33 "LicenceKeeper" "held" "Ljava/util/ArrayList;") (by decide +kernel)) (fun _ h9 => h9) rfl dX2_requireFewRights_6 ?_
      refine kv_calli (va_runV (As := []) (rest := [.int x3]) ⟨hx, hb, hml, hown, hts⟩ (c_K_size l D ci ad kc kh ks fo kl kp dy mo n pa aE qp qm ql qv qc qe mt mv sw hv tk tn sc H.size) (cwV 0 hts gX2_requireFewRights_Jx4a65c_size_8abf5 rfl rfl rfl (by decide +kernel) ⟨Nat.le_of_ble_eq_true rfl, Nat.le_of_ble_eq_true rfl⟩) (kv_preV hK hP hD (r := (RJx4a65c, TJx4a65c, 3)) (q0 := 7) (k := 0) rfl rfl rfl) rfl rfl hl.1 rfl (lv_room (Nat.le_of_ble_eq_true rfl)) dX2_requireFewRights_9 ⟨Nat.le_of_ble_eq_true rfl, Nat.le_of_ble_eq_true rfl⟩) hD hS hA (fun r_9 u_9 H locs hw_9 hP hD hS => ?_)
      subst hw_9
      refine lv_icmp_ge (tgt := 54) hx hb dX2_requireFewRights_12 (by decide) (fun c_12 => ?_) (fun c_12 => ?_)
      · have e := e.trans (if_pos c_12)
        refine lv_iload_n hx hb dX2_requireFewRights_54 rfl (lv_at hl 2 rfl) ?_
        refine lv_iconst (v := 2) hx hb dX2_requireFewRights_55 (by decide) ?_
        refine lv_icmp_le (tgt := 69) hx hb dX2_requireFewRights_56 (by decide) (fun c_56 => ?_) (fun c_56 => ?_)
        · have e := e.trans (if_pos c_56)
          rw [hQ]
          refine W.widen (k := 1) (n := 6) (Nat.le_of_ble_eq_true rfl) (Nat.le_of_ble_eq_true rfl) ?_
          refine vx_ret ?_
          exact W.vret hx hb hr (fun t ht hW => ⟨⟨(), rfl, e, ⟨by rw [ht]; exact hP, by rw [hAe]; exact hD⟩⟩, hS.F ht⟩) hS.2.2 dX2_requireFewRights_69
        · have e := e.trans (if_neg c_56)
          rw [hQ]
          obtain ⟨sa9, hs9⟩ := hT.2.2.1 (195, "the product has too many rights to try all sets") (by decide +kernel)
          have hg9 : ∀ w ∈ (vx_atS RX2 73 "java/lang/IllegalStateException" ["java/lang/RuntimeException", "java/lang/Exception"]).filter goodWord, w ∈ wsX2_requireFewRights := by decide +kernel
          refine vx_throwS hx hb hl9 (own := RX2) (cls := "java/lang/IllegalStateException") (text := "the product has too many rights to try all sets") (names := ["java/lang/RuntimeException", "java/lang/Exception"]) (ik := 69) (is := 195) (ic := 73) (A := A) hown (by decide +kernel) (by decide +kernel) (hts (.classLink RX2 69 "java/lang/IllegalStateException") (by decide +kernel)) (hts (.initialized "java/lang/IllegalStateException") (by decide +kernel)) hs9 (vx_hat (B := [.castable "java/lang/IllegalStateException" "java/lang/IllegalStateException", .declares (Bundle.initS "java/lang/RuntimeException"), .declares (Bundle.initS "java/lang/Exception"), .declares (Bundle.initS Bundle.tN)]) (fun w hw => hts w (hg9 w hw)) (by decide +kernel) (vx_c (va_Nw.use rfl (hT.2.2.2.1 3)) (vx_c (va_Nw.use rfl (hT.2.2.2.2 "java/lang/RuntimeException" (by decide +kernel))) (vx_c (va_Nw.use rfl (hT.2.2.2.2 "java/lang/Exception" (by decide +kernel))) (vx_c (va_Nw.use rfl (hT.2.2.2.2 Bundle.tN (by decide +kernel))) vx_n))))) (by decide +kernel) hT.1 hT.2.1 hS (hl.1.trans hml.symm) dX2_requireFewRights_59 dX2_requireFewRights_62 dX2_requireFewRights_63 dX2_requireFewRights_65 dX2_requireFewRights_68 (fun x h => (hex x h).elim) (Nat.le_of_ble_eq_true rfl) (Nat.le_of_ble_eq_true rfl) (Nat.le_of_ble_eq_true rfl) (Nat.le_of_ble_eq_true rfl) hlocks (fun t hvm h1 h2 => ?_) hS.2.2 (Nat.le_of_ble_eq_true rfl) (Nat.le_of_ble_eq_true rfl)
          obtain ⟨⟨a1, a2⟩, a3⟩ := kv_thrown hP hD hS h1 h2
          exact ⟨3, e, ⟨by decide +kernel, a1, by rw [hAe]; exact a2⟩, a3⟩
      · have e := e.trans (if_neg c_12)
        refine lv_aload_n hx hb dX2_requireFewRights_15 rfl (lv_at hl 0 rfl) ?_
        refine va_get (D := D) (ci := 3) (v := .ref (ad 7)) (C := RX2) (T := TX2) (N := 9) hx hb hts hinRX2 hown hK hP 0 rfl rfl 6 (by decide) (hts (.fieldLink RX2 33 "LicenceKeeper" "held" "Ljava/util/ArrayList;") (by decide +kernel)) (fun _ h9 => h9) rfl dX2_requireFewRights_16 ?_
        refine lv_iload_n hx hb dX2_requireFewRights_19 rfl (lv_at hl 3 rfl) ?_
        obtain ⟨hi_20, hn_20, e⟩ := kv_L_e e hRz
        refine kv_callq (pa := pa) (n := n) (va_runV (As := [.int x3]) (rest := []) ⟨hx, hb, hml, hown, hts⟩ (c_K_get l D ci ad kc kh ks fo kl kp dy mo n pa aE qp qm ql qv qc qe mt mv sw hv tk tn sc x3 hi_20 hn_20 H.size) (cwV 1 hts gX2_requireFewRights_Jx4a65c_get_915e3 rfl rfl rfl (by decide +kernel) ⟨Nat.le_of_ble_eq_true rfl, Nat.le_of_ble_eq_true rfl⟩) (kv_preV hK hP hD (r := (RJx4a65c, TJx4a65c, 3)) (q0 := 7) (k := 0) rfl rfl rfl) rfl rfl hl.1 rfl (lv_room (Nat.le_of_ble_eq_true rfl)) dX2_requireFewRights_20 ⟨Nat.le_of_ble_eq_true rfl, Nat.le_of_ble_eq_true rfl⟩) hD hS hA (fun k_20 H locs hk_20 ek_20 hP hD hS => ?_)
        have e := kv_T_e e ek_20
        refine va_castS hx hb hown (hts (.classLink RX2 84 "LicenceKeeper$Right") (by decide +kernel)) (hK.1 2 _ rfl).2 (va_recv hK hP (ci := 2) (q0 := 24 + k_20) rfl (kv_rt hk_20)) dX2_requireFewRights_23 ?_
        refine lv_astore (lv' := [(4, .ref (pa k_20)), (0, .ref (ad 0)), (1, .int p0), (2, .int x2), (3, .int x3)]) hx hb dX2_requireFewRights_26 hl (by decide) rfl (fun ls hl => ?_)
        refine lv_aload hx hb dX2_requireFewRights_28 (lv_at hl 0 rfl) ?_
        refine va_get (D := D) (ci := 2) (v := .int (qp k_20)) (C := RX1) (T := TX1) (N := 6) hx hb hts hinRX1 hown hK hP (24 + k_20) (kv_rt hk_20) rfl 0 (by decide) (hts (.fieldLink RX2 86 "LicenceKeeper$Right" "product" "I") (by decide +kernel)) (fun _ h9 => h9) rfl dX2_requireFewRights_30 ?_
        refine lv_iload_n hx hb dX2_requireFewRights_33 rfl (lv_at hl 2 rfl) ?_
        refine lv_icmp_ne (tgt := 48) hx hb dX2_requireFewRights_34 (by decide) (fun c_34 => ?_) (fun c_34 => ?_)
        · have e := e.trans (if_neg c_34)
          refine lv_iinc (v := x3 + 1) (lv' := [(3, .int (x3 + 1)), (4, .ref (pa k_20)), (0, .ref (ad 0)), (1, .int p0), (2, .int x2)]) hx hb dX2_requireFewRights_48 hl (k := 4) rfl rfl (by decide) rfl (fun ls hl => ?_)
          refine lv_goto (tgt := 4) hx hb dX2_requireFewRights_51 (by decide) ?_
          exact ih_4 x2 (x3 + 1) _ _ _  hP hD hS (lv_sub hl [2, 3, 4, 0] rfl) e
        · have e := e.trans (if_pos c_34)
          refine lv_aload hx hb dX2_requireFewRights_37 (lv_at hl 0 rfl) ?_
          refine va_get (D := D) (ci := 2) (v := .int (qc k_20)) (C := RX1) (T := TX1) (N := 6) hx hb hts hinRX1 hown hK hP (24 + k_20) (kv_rt hk_20) rfl 4 (by decide) (hts (.fieldLink RX2 112 "LicenceKeeper$Right" "count" "I") (by decide +kernel)) (fun _ h9 => h9) rfl dX2_requireFewRights_39 ?_
          refine lv_if_le (tgt := 48) hx hb dX2_requireFewRights_42 (by decide) (fun c_42 => ?_) (fun c_42 => ?_)
          · have e := e.trans (if_pos c_42)
            refine lv_iinc (v := x3 + 1) (lv' := [(3, .int (x3 + 1)), (4, .ref (pa k_20)), (0, .ref (ad 0)), (1, .int p0), (2, .int x2)]) hx hb dX2_requireFewRights_48 hl (k := 4) rfl rfl (by decide) rfl (fun ls hl => ?_)
            refine lv_goto (tgt := 4) hx hb dX2_requireFewRights_51 (by decide) ?_
            exact ih_4 x2 (x3 + 1) _ _ _  hP hD hS (lv_sub hl [2, 3, 4, 0] rfl) e
          · have e := e.trans (if_neg c_42)
            refine lv_iinc (v := x2 + 1) (lv' := [(2, .int (x2 + 1)), (4, .ref (pa k_20)), (0, .ref (ad 0)), (1, .int p0), (3, .int x3)]) hx hb dX2_requireFewRights_45 hl (k := 3) rfl rfl (by decide) rfl (fun ls hl => ?_)
            refine lv_iinc (v := x3 + 1) (lv' := [(3, .int (x3 + 1)), (2, .int (x2 + 1)), (4, .ref (pa k_20)), (0, .ref (ad 0)), (1, .int p0)]) hx hb dX2_requireFewRights_48 hl (k := 4) rfl rfl (by decide) rfl (fun ls hl => ?_)
            refine lv_goto (tgt := 4) hx hb dX2_requireFewRights_51 (by decide) ?_
            exact ih_4 (x2 + 1) (x3 + 1) _ _ _  hP hD hS (lv_sub hl [3, 4, 1, 0] rfl) e
  refine lv_iconst (v := 0) hx hb dX2_requireFewRights_0 (by decide) ?_
  refine lv_istore_n (lv' := [(2, .int 0), (0, .ref (ad 0)), (1, .int p0)]) hx hb dX2_requireFewRights_1 rfl hl (by decide) rfl (fun ls hl => ?_)
  refine lv_iconst (v := 0) hx hb dX2_requireFewRights_2 (by decide) ?_
  refine lv_istore_n (lv' := [(3, .int 0), (2, .int 0), (0, .ref (ad 0)), (1, .int p0)]) hx hb dX2_requireFewRights_3 rfl hl (by decide) rfl (fun ls hl => ?_)
  exact hb_4 kv_F 0 0 _ _ _  hP hD hS (lv_sub hl [2, 3, 1, 0] rfl) e

def pf_X2_rightAt (n : Nat) (p0 : Int32)  : Option ((Nat) ⊕ Nat) :=
  if p0 < 0 then some (.inr 1) else if p0 < (nI n) then kv_L p0 n (kv_T p0.toNatClampNeg (fun k_30 => some (.inl (k_30)))) else some (.inr 1)
abbrev rmX2_rightAt : Room := { frames := 6, cells := 1, slots := 6, locals := 82 }
set_option maxHeartbeats 4000000 in
set_option maxRecDepth 100000 in
theorem c_X2_rightAt (l : Launch) (hl9 : l.stackTraces = false) (D : va_G) (ci ad : Nat → Nat) (kc : Nat → Int32) (kh : Nat → Int32) (ks : Nat → Int32) (fo : Nat → Nat → Int32) (kl : Nat → Int32) (kp : Nat → Int32) (dy : Int32) (mo : Int32) (n : Nat) (pa : Nat → Nat) (aE : Nat) (qp : Nat → Int32) (qm : Nat → Int32) (ql : Nat → Int32) (qv : Nat → Int32) (qc : Nat → Int32) (qe : Nat → Int32) (mt : Nat → Int32) (mv : Nat → Int32) (sw : Nat → Int32) (hv : Int32) (tk : Nat → Int32) (tn : Nat → Int32) (sc : Nat → Int32) (p0 : Int32)  (hRn : pf_X2_rightAt n p0 ≠ none) (sz : Nat) : vx_Met l yX2_rightAt wsX2_rightAt rmX2_rightAt (va_Pc [.ref (ad 0), .int p0] (kv_preX D ci (kv_kw ci ad kc kh ks fo kl kp dy mo n pa aE qp qm ql qv qc qe mt mv sw hv tk tn sc) sz))  (va_Qq (fun (r : Option Nat) (u : Nat) => r = some (pa u) ∧ u < n ∧ pf_X2_rightAt n p0 = some (.inl (u))) (fun u t => kv_post D (kv_kw ci ad kc kh ks fo kl kp dy mo n pa aE qp qm ql qv qc qe mt mv sw hv tk tn sc) sz (kv_kw ci ad kc kh ks fo kl kp dy mo n pa aE qp qm ql qv qc qe mt mv sw hv tk tn sc) t) (va_A (kv_kw ci ad kc kh ks fo kl kp dy mo n pa aE qp qm ql qv qc qe mt mv sw hv tk tn sc) sz)) (vx_X (fun u : Nat => pf_X2_rightAt n p0 = some (.inr u)) (fun E u t => E = kv_ex u ∧ kv_post D (kv_kw ci ad kc kh ks fo kl kp dy mo n pa aE qp qm ql qv qc qe mt mv sw hv tk tn sc) sz (kv_kw ci ad kc kh ks fo kl kp dy mo n pa aE qp qm ql qv qc qe mt mv sw hv tk tn sc) t) (va_A (kv_kw ci ad kc kh ks fo kl kp dy mo n pa aE qp qm ql qv qc qe mt mv sw hv tk tn sc) sz)) 1 6 (va_A (kv_kw ci ad kc kh ks fo kl kp dy mo n pa aE qp qm ql qv qc qe mt mv sw hv tk tn sc) sz) := by
  refine vx_ofW (cc := cX2_rightAt) (maxL := 2) (ret := (some (.object "LicenceKeeper$Right"))) (by decide) rfl ?_
  intro p en s m args below meth c s₁ B hml hex hv
  obtain ⟨hv0, ⟨hsz, hP, hK, hD0⟩, hT⟩ := hv
  have hx := B.exec
  have hb := B.bytes
  have hr := B.returns
  have hts := atoms_spec (ws := wsX2_rightAt) B.pre
  have hown : s.vm.findClass RX2 = some m.cls := findClass_of_methodNamed B.named
  have hlocks := B.notSynchronized
  subst hsz
  have hD := hD0.self (sz := s.heap.size)
  generalize hAe : va_A (kv_kw ci ad kc kh ks fo kl kp dy mo n pa aE qp qm ql qv qc qe mt mv sw hv tk tn sc) s.heap.size = A at hD hT ⊢
  have hA : ∀ q : Nat, s.heap.size ≤ q → A q := fun q h => by rw [← hAe]; exact Or.inr h
  have hS : va_S A s.heap s.heap [] := va_S.rf
  have hP : va_P D vwCl (kv_kw ci ad kc kh ks fo kl kp dy mo n pa aE qp qm ql qv qc qe mt mv sw hv tk tn sc) s.heap := hP
  have hinRX2 : ∀ w ∈ u_ws RX2 TX2 9, w ∈ wsX2_rightAt := by decide +kernel
  generalize hRd : pf_X2_rightAt n p0 = Rz at hRn
  have hRz := hRn
  refine kv_Q (fun Q hQ => ?_)
  refine W.eq (show entryFrame m args 2 = _ from by rw [hv0, lg_entry_eq]) ?_
  have hl := lv_entry ([.ref (ad 0), .int p0]) (n := 2) (Nat.le_of_ble_eq_true rfl)
  generalize (lg_sl ([.ref (ad 0), .int p0]) ++ List.replicate (2 - (lg_sl ([.ref (ad 0), .int p0])).length) Slot.unset).toArray = ls at hl ⊢
  have hl : lv_has ls 2 [(0, .ref (ad 0)), (1, .int p0)] := hl
  have e : Rz = pf_X2_rightAt n p0 := hRd.symm
  rw [pf_X2_rightAt] at e
  refine lv_iload_n hx hb dX2_rightAt_0 rfl (lv_at hl 1 rfl) ?_
  refine lv_if_lt (tgt := 15) hx hb dX2_rightAt_1 (by decide) (fun c_1 => ?_) (fun c_1 => ?_)
  · have e := e.trans (if_pos c_1)
    rw [hQ]
    obtain ⟨sa9, hs9⟩ := hT.2.2.1 (197, "there is no such right") (by decide +kernel)
    have hg9 : ∀ w ∈ (vx_atS RX2 175 "java/lang/IndexOutOfBoundsException" ["java/lang/RuntimeException", "java/lang/Exception"]).filter goodWord, w ∈ wsX2_rightAt := by decide +kernel
    refine vx_throwS hx hb hl9 (own := RX2) (cls := "java/lang/IndexOutOfBoundsException") (text := "there is no such right") (names := ["java/lang/RuntimeException", "java/lang/Exception"]) (ik := 171) (is := 197) (ic := 175) (A := A) hown (by decide +kernel) (by decide +kernel) (hts (.classLink RX2 171 "java/lang/IndexOutOfBoundsException") (by decide +kernel)) (hts (.initialized "java/lang/IndexOutOfBoundsException") (by decide +kernel)) hs9 (vx_hat (B := [.castable "java/lang/IndexOutOfBoundsException" "java/lang/IndexOutOfBoundsException", .declares (Bundle.initS "java/lang/RuntimeException"), .declares (Bundle.initS "java/lang/Exception"), .declares (Bundle.initS Bundle.tN)]) (fun w hw => hts w (hg9 w hw)) (by decide +kernel) (vx_c (va_Nw.use rfl (hT.2.2.2.1 1)) (vx_c (va_Nw.use rfl (hT.2.2.2.2 "java/lang/RuntimeException" (by decide +kernel))) (vx_c (va_Nw.use rfl (hT.2.2.2.2 "java/lang/Exception" (by decide +kernel))) (vx_c (va_Nw.use rfl (hT.2.2.2.2 Bundle.tN (by decide +kernel))) vx_n))))) (by decide +kernel) hT.1 hT.2.1 hS (hl.1.trans hml.symm) dX2_rightAt_15 dX2_rightAt_18 dX2_rightAt_19 dX2_rightAt_21 dX2_rightAt_24 (fun x h => (hex x h).elim) (Nat.le_of_ble_eq_true rfl) (Nat.le_of_ble_eq_true rfl) (Nat.le_of_ble_eq_true rfl) (Nat.le_of_ble_eq_true rfl) hlocks (fun t hvm h1 h2 => ?_) hS.2.2 (Nat.le_of_ble_eq_true rfl) (Nat.le_of_ble_eq_true rfl)
    obtain ⟨⟨a1, a2⟩, a3⟩ := kv_thrown hP hD hS h1 h2
    exact ⟨1, e, ⟨by decide +kernel, a1, by rw [hAe]; exact a2⟩, a3⟩
  · have e := e.trans (if_neg c_1)
    refine lv_iload_n hx hb dX2_rightAt_4 rfl (lv_at hl 1 rfl) ?_
    refine lv_aload_n hx hb dX2_rightAt_5 rfl (lv_at hl 0 rfl) ?_
    refine va_get (D := D) (ci := 3) (v := .ref (ad 7)) (C := RX2) (T := TX2) (N := 9) hx hb hts hinRX2 hown hK hP 0 rfl rfl 6 (by decide) (hts (.fieldLink RX2 33 "LicenceKeeper" "held" "Ljava/util/ArrayList;") (by decide +kernel)) (fun _ h9 => h9) rfl dX2_rightAt_6 ?_
    refine kv_calli (va_runV (As := []) (rest := [.int p0]) ⟨hx, hb, hml, hown, hts⟩ (c_K_size l D ci ad kc kh ks fo kl kp dy mo n pa aE qp qm ql qv qc qe mt mv sw hv tk tn sc s.heap.size) (cwV 0 hts gX2_rightAt_Jx4a65c_size_8abf5 rfl rfl rfl (by decide +kernel) ⟨Nat.le_of_ble_eq_true rfl, Nat.le_of_ble_eq_true rfl⟩) (kv_preV hK hP hD (r := (RJx4a65c, TJx4a65c, 3)) (q0 := 7) (k := 0) rfl rfl rfl) rfl rfl hl.1 rfl (lv_room (Nat.le_of_ble_eq_true rfl)) dX2_rightAt_9 ⟨Nat.le_of_ble_eq_true rfl, Nat.le_of_ble_eq_true rfl⟩) hD hS hA (fun r_9 u_9 H locs hw_9 hP hD hS => ?_)
    subst hw_9
    refine lv_icmp_lt (tgt := 25) hx hb dX2_rightAt_12 (by decide) (fun c_12 => ?_) (fun c_12 => ?_)
    · have e := e.trans (if_pos c_12)
      refine lv_aload_n hx hb dX2_rightAt_25 rfl (lv_at hl 0 rfl) ?_
      refine va_get (D := D) (ci := 3) (v := .ref (ad 7)) (C := RX2) (T := TX2) (N := 9) hx hb hts hinRX2 hown hK hP 0 rfl rfl 6 (by decide) (hts (.fieldLink RX2 33 "LicenceKeeper" "held" "Ljava/util/ArrayList;") (by decide +kernel)) (fun _ h9 => h9) rfl dX2_rightAt_26 ?_
      refine lv_iload_n hx hb dX2_rightAt_29 rfl (lv_at hl 1 rfl) ?_
      obtain ⟨hi_30, hn_30, e⟩ := kv_L_e e hRz
      refine kv_callq (pa := pa) (n := n) (va_runV (As := [.int p0]) (rest := []) ⟨hx, hb, hml, hown, hts⟩ (c_K_get l D ci ad kc kh ks fo kl kp dy mo n pa aE qp qm ql qv qc qe mt mv sw hv tk tn sc p0 hi_30 hn_30 H.size) (cwV 1 hts gX2_rightAt_Jx4a65c_get_915e3 rfl rfl rfl (by decide +kernel) ⟨Nat.le_of_ble_eq_true rfl, Nat.le_of_ble_eq_true rfl⟩) (kv_preV hK hP hD (r := (RJx4a65c, TJx4a65c, 3)) (q0 := 7) (k := 0) rfl rfl rfl) rfl rfl hl.1 rfl (lv_room (Nat.le_of_ble_eq_true rfl)) dX2_rightAt_30 ⟨Nat.le_of_ble_eq_true rfl, Nat.le_of_ble_eq_true rfl⟩) hD hS hA (fun k_30 H locs hk_30 ek_30 hP hD hS => ?_)
      have e := kv_T_e e ek_30
      refine va_castS hx hb hown (hts (.classLink RX2 84 "LicenceKeeper$Right") (by decide +kernel)) (hK.1 2 _ rfl).2 (va_recv hK hP (ci := 2) (q0 := 24 + k_30) rfl (kv_rt hk_30)) dX2_rightAt_33 ?_
      rw [hQ]
      refine W.widen (k := 1) (n := 6) (Nat.le_of_ble_eq_true rfl) (Nat.le_of_ble_eq_true rfl) ?_
      refine vx_ret ?_
      exact W.aret (v := .ref (pa k_30)) hx hb hr (Or.inl ⟨_, rfl⟩) (Or.inr ⟨_, rfl⟩) (fun t ht hW => ⟨⟨some (pa k_30), k_30, rfl, ⟨rfl, hk_30, e⟩, ⟨by rw [ht]; exact hP, by rw [hAe]; exact hD⟩⟩, hS.F ht⟩) hS.2.2 dX2_rightAt_36
    · have e := e.trans (if_neg c_12)
      rw [hQ]
      obtain ⟨sa9, hs9⟩ := hT.2.2.1 (197, "there is no such right") (by decide +kernel)
      have hg9 : ∀ w ∈ (vx_atS RX2 175 "java/lang/IndexOutOfBoundsException" ["java/lang/RuntimeException", "java/lang/Exception"]).filter goodWord, w ∈ wsX2_rightAt := by decide +kernel
      refine vx_throwS hx hb hl9 (own := RX2) (cls := "java/lang/IndexOutOfBoundsException") (text := "there is no such right") (names := ["java/lang/RuntimeException", "java/lang/Exception"]) (ik := 171) (is := 197) (ic := 175) (A := A) hown (by decide +kernel) (by decide +kernel) (hts (.classLink RX2 171 "java/lang/IndexOutOfBoundsException") (by decide +kernel)) (hts (.initialized "java/lang/IndexOutOfBoundsException") (by decide +kernel)) hs9 (vx_hat (B := [.castable "java/lang/IndexOutOfBoundsException" "java/lang/IndexOutOfBoundsException", .declares (Bundle.initS "java/lang/RuntimeException"), .declares (Bundle.initS "java/lang/Exception"), .declares (Bundle.initS Bundle.tN)]) (fun w hw => hts w (hg9 w hw)) (by decide +kernel) (vx_c (va_Nw.use rfl (hT.2.2.2.1 1)) (vx_c (va_Nw.use rfl (hT.2.2.2.2 "java/lang/RuntimeException" (by decide +kernel))) (vx_c (va_Nw.use rfl (hT.2.2.2.2 "java/lang/Exception" (by decide +kernel))) (vx_c (va_Nw.use rfl (hT.2.2.2.2 Bundle.tN (by decide +kernel))) vx_n))))) (by decide +kernel) hT.1 hT.2.1 hS (hl.1.trans hml.symm) dX2_rightAt_15 dX2_rightAt_18 dX2_rightAt_19 dX2_rightAt_21 dX2_rightAt_24 (fun x h => (hex x h).elim) (Nat.le_of_ble_eq_true rfl) (Nat.le_of_ble_eq_true rfl) (Nat.le_of_ble_eq_true rfl) (Nat.le_of_ble_eq_true rfl) hlocks (fun t hvm h1 h2 => ?_) hS.2.2 (Nat.le_of_ble_eq_true rfl) (Nat.le_of_ble_eq_true rfl)
      obtain ⟨⟨a1, a2⟩, a3⟩ := kv_thrown hP hD hS h1 h2
      exact ⟨1, e, ⟨by decide +kernel, a1, by rw [hAe]; exact a2⟩, a3⟩

def pf_X2_weightOn (kc : Nat → Int32) (fo : Nat → Nat → Int32) (kp : Nat → Int32) (p0 : Int32) (p1 : Int32)  : Option (Int32) :=
  kv_G p0 8 (kv_G p1 4 (kv_T (fo p0.toNatClampNeg p1.toNatClampNeg) (fun y_7 => if y_7 ≤ 0 then some (0) else kv_G p0 8 (kv_T (kc p0.toNatClampNeg) (fun y_16 => kv_G p1 4 (kv_T (kp p1.toNatClampNeg) (fun y_22 => some ((y_16 * y_22)))))))))
abbrev rmX2_weightOn : Room := { frames := 0, cells := 0, slots := 0, locals := 0 }
set_option maxHeartbeats 4000000 in
set_option maxRecDepth 100000 in
theorem c_X2_weightOn (l : Launch) (D : va_G) (ci ad : Nat → Nat) (kc : Nat → Int32) (kh : Nat → Int32) (ks : Nat → Int32) (fo : Nat → Nat → Int32) (kl : Nat → Int32) (kp : Nat → Int32) (dy : Int32) (mo : Int32) (n : Nat) (pa : Nat → Nat) (aE : Nat) (qp : Nat → Int32) (qm : Nat → Int32) (ql : Nat → Int32) (qv : Nat → Int32) (qc : Nat → Int32) (qe : Nat → Int32) (mt : Nat → Int32) (mv : Nat → Int32) (sw : Nat → Int32) (hv : Int32) (tk : Nat → Int32) (tn : Nat → Int32) (sc : Nat → Int32) (p0 : Int32) (p1 : Int32)  (hRn : pf_X2_weightOn kc fo kp p0 p1 ≠ none) (sz : Nat) : Met l yX2_weightOn wsX2_weightOn rmX2_weightOn (va_Pc [.ref (ad 0), .int p0, .int p1] (kv_pre D ci (kv_kw ci ad kc kh ks fo kl kp dy mo n pa aE qp qm ql qv qc qe mt mv sw hv tk tn sc) sz)) (va_Qi (fun (r : Int32) (u : Unit) => pf_X2_weightOn kc fo kp p0 p1 = some (r)) (fun u t => kv_post D (kv_kw ci ad kc kh ks fo kl kp dy mo n pa aE qp qm ql qv qc qe mt mv sw hv tk tn sc) sz (kv_kw ci ad kc kh ks fo kl kp dy mo n pa aE qp qm ql qv qc qe mt mv sw hv tk tn sc) t) (va_A (kv_kw ci ad kc kh ks fo kl kp dy mo n pa aE qp qm ql qv qc qe mt mv sw hv tk tn sc) sz)) 0 0 (va_A (kv_kw ci ad kc kh ks fo kl kp dy mo n pa aE qp qm ql qv qc qe mt mv sw hv tk tn sc) sz) := by
  refine Met.ofW (cc := cX2_weightOn) (maxL := 3) (ret := (some .int)) (by decide) rfl ?_
  intro p en s m args below meth c s₁ B hml hv
  obtain ⟨hv0, hsz, hP, hK, hD0⟩ := hv
  have hx := B.exec
  have hb := B.bytes
  have hr := B.returns
  have hts := atoms_spec (ws := wsX2_weightOn) B.pre
  have hown : s.vm.findClass RX2 = some m.cls := findClass_of_methodNamed B.named
  have hlocks := B.notSynchronized
  subst hsz
  have hD := hD0.self (sz := s.heap.size)
  generalize hAe : va_A (kv_kw ci ad kc kh ks fo kl kp dy mo n pa aE qp qm ql qv qc qe mt mv sw hv tk tn sc) s.heap.size = A at hD ⊢
  have hA : ∀ q : Nat, s.heap.size ≤ q → A q := fun q h => by rw [← hAe]; exact Or.inr h
  have hS : va_S A s.heap s.heap [] := va_S.rf
  have hP : va_P D vwCl (kv_kw ci ad kc kh ks fo kl kp dy mo n pa aE qp qm ql qv qc qe mt mv sw hv tk tn sc) s.heap := hP
  have hinRX2 : ∀ w ∈ u_ws RX2 TX2 9, w ∈ wsX2_weightOn := by decide +kernel
  generalize hRd : pf_X2_weightOn kc fo kp p0 p1 = Rz at hRn
  have hRz := hRn
  refine kv_Q (fun Q hQ => ?_)
  refine W.eq (show entryFrame m args 3 = _ from by rw [hv0, lg_entry_eq]) ?_
  have hl := lv_entry ([.ref (ad 0), .int p0, .int p1]) (n := 3) (Nat.le_of_ble_eq_true rfl)
  generalize (lg_sl ([.ref (ad 0), .int p0, .int p1]) ++ List.replicate (3 - (lg_sl ([.ref (ad 0), .int p0, .int p1])).length) Slot.unset).toArray = ls at hl ⊢
  have hl : lv_has ls 3 [(0, .ref (ad 0)), (1, .int p0), (2, .int p1)] := hl
  have e : Rz = pf_X2_weightOn kc fo kp p0 p1 := hRd.symm
  rw [pf_X2_weightOn] at e
  refine lv_aload_n hx hb dX2_weightOn_0 rfl (lv_at hl 0 rfl) ?_
  refine va_get (D := D) (ci := 3) (v := .ref (ad 4)) (C := RX2) (T := TX2) (N := 9) hx hb hts hinRX2 hown hK hP 0 rfl rfl 3 (by decide) (hts (.fieldLink RX2 21 "LicenceKeeper" "found" "[[I") (by decide +kernel)) (fun _ h9 => h9) rfl dX2_weightOn_1 ?_
  refine lv_iload_n hx hb dX2_weightOn_4 rfl (lv_at hl 1 rfl) ?_
  obtain ⟨hi_5, e⟩ := kv_G_e e hRz
  refine kv_aldr hx hb hK hP 4 3 hi_5 (kv_out hi_5) dX2_weightOn_5 rfl rfl ?_
  refine lv_iload_n hx hb dX2_weightOn_6 rfl (lv_at hl 2 rfl) ?_
  obtain ⟨hi_7, e⟩ := kv_G_e e hRz
  refine kv_iald hx hb hK hP (15 + p0.toNatClampNeg) 0 hi_7 dX2_weightOn_7 (kv_row hi_5) rfl (fun y_7 ey_7 => ?_)
  have e := kv_T_e e ey_7
  refine lv_if_le (tgt := 27) hx hb dX2_weightOn_8 (by decide) (fun c_8 => ?_) (fun c_8 => ?_)
  · have e := e.trans (if_pos c_8)
    refine lv_iconst (v := 0) hx hb dX2_weightOn_27 (by decide) ?_
    rw [hQ]
    exact W.iret (v := 0) hx hb hr (fun t ht hW => ⟨⟨0, (), rfl, e, ⟨by rw [ht]; exact hP, by rw [hAe]; exact hD⟩⟩, hS.F ht⟩) hS.2.2 dX2_weightOn_28
  · have e := e.trans (if_neg c_8)
    refine lv_aload_n hx hb dX2_weightOn_11 rfl (lv_at hl 0 rfl) ?_
    refine va_get (D := D) (ci := 3) (v := .ref (ad 1)) (C := RX2) (T := TX2) (N := 9) hx hb hts hinRX2 hown hK hP 0 rfl rfl 0 (by decide) (hts (.fieldLink RX2 9 "LicenceKeeper" "cores" "[I") (by decide +kernel)) (fun _ h9 => h9) rfl dX2_weightOn_12 ?_
    refine lv_iload_n hx hb dX2_weightOn_15 rfl (lv_at hl 1 rfl) ?_
    obtain ⟨hi_16, e⟩ := kv_G_e e hRz
    refine kv_iald hx hb hK hP 1 0 hi_16 dX2_weightOn_16 rfl rfl (fun y_16 ey_16 => ?_)
    have e := kv_T_e e ey_16
    refine lv_aload_n hx hb dX2_weightOn_17 rfl (lv_at hl 0 rfl) ?_
    refine va_get (D := D) (ci := 3) (v := .ref (ad 6)) (C := RX2) (T := TX2) (N := 9) hx hb hts hinRX2 hown hK hP 0 rfl rfl 5 (by decide) (hts (.fieldLink RX2 27 "LicenceKeeper" "prices" "[I") (by decide +kernel)) (fun _ h9 => h9) rfl dX2_weightOn_18 ?_
    refine lv_iload_n hx hb dX2_weightOn_21 rfl (lv_at hl 2 rfl) ?_
    obtain ⟨hi_22, e⟩ := kv_G_e e hRz
    refine kv_iald hx hb hK hP 6 0 hi_22 dX2_weightOn_22 rfl rfl (fun y_22 ey_22 => ?_)
    have e := kv_T_e e ey_22
    refine lv_imul hx hb dX2_weightOn_23 ?_
    refine lv_goto (tgt := 28) hx hb dX2_weightOn_24 (by decide) ?_
    rw [hQ]
    exact W.iret (v := (y_16 * y_22)) hx hb hr (fun t ht hW => ⟨⟨(y_16 * y_22), (), rfl, e, ⟨by rw [ht]; exact hP, by rw [hAe]; exact hD⟩⟩, hS.F ht⟩) hS.2.2 dX2_weightOn_28

def pf_X2_takenOn (kc : Nat → Int32) (n : Nat) (qm : Nat → Int32) (p0 : Nat) (p1 : Int32)  : Option (Int32) :=
  if (qm p0) = 1 then kv_G p1 8 (kv_T (kc p1.toNatClampNeg) (fun y_14 => kv_T (if 4 < y_14 then y_14 else 4) (fun y_15 => some (y_15)))) else some (1)
abbrev rmX2_takenOn : Room := { frames := 1, cells := 0, slots := 0, locals := 14 }
set_option maxHeartbeats 4000000 in
set_option maxRecDepth 100000 in
theorem c_X2_takenOn (l : Launch) (D : va_G) (ci ad : Nat → Nat) (kc : Nat → Int32) (kh : Nat → Int32) (ks : Nat → Int32) (fo : Nat → Nat → Int32) (kl : Nat → Int32) (kp : Nat → Int32) (dy : Int32) (mo : Int32) (n : Nat) (pa : Nat → Nat) (aE : Nat) (qp : Nat → Int32) (qm : Nat → Int32) (ql : Nat → Int32) (qv : Nat → Int32) (qc : Nat → Int32) (qe : Nat → Int32) (mt : Nat → Int32) (mv : Nat → Int32) (sw : Nat → Int32) (hv : Int32) (tk : Nat → Int32) (tn : Nat → Int32) (sc : Nat → Int32) (p0 : Nat) (p1 : Int32) (hp0 : p0 < n) (hRn : pf_X2_takenOn kc n qm p0 p1 ≠ none) (sz : Nat) : Met l yX2_takenOn wsX2_takenOn rmX2_takenOn (va_Pc [.ref (ad 0), .ref (pa p0), .int p1] (kv_pre D ci (kv_kw ci ad kc kh ks fo kl kp dy mo n pa aE qp qm ql qv qc qe mt mv sw hv tk tn sc) sz)) (va_Qi (fun (r : Int32) (u : Unit) => pf_X2_takenOn kc n qm p0 p1 = some (r)) (fun u t => kv_post D (kv_kw ci ad kc kh ks fo kl kp dy mo n pa aE qp qm ql qv qc qe mt mv sw hv tk tn sc) sz (kv_kw ci ad kc kh ks fo kl kp dy mo n pa aE qp qm ql qv qc qe mt mv sw hv tk tn sc) t) (va_A (kv_kw ci ad kc kh ks fo kl kp dy mo n pa aE qp qm ql qv qc qe mt mv sw hv tk tn sc) sz)) 0 0 (va_A (kv_kw ci ad kc kh ks fo kl kp dy mo n pa aE qp qm ql qv qc qe mt mv sw hv tk tn sc) sz) := by
  refine Met.ofW (cc := cX2_takenOn) (maxL := 3) (ret := (some .int)) (by decide) rfl ?_
  intro p en s m args below meth c s₁ B hml hv
  obtain ⟨hv0, hsz, hP, hK, hD0⟩ := hv
  have hx := B.exec
  have hb := B.bytes
  have hr := B.returns
  have hts := atoms_spec (ws := wsX2_takenOn) B.pre
  have hown : s.vm.findClass RX2 = some m.cls := findClass_of_methodNamed B.named
  have hlocks := B.notSynchronized
  subst hsz
  have hD := hD0.self (sz := s.heap.size)
  generalize hAe : va_A (kv_kw ci ad kc kh ks fo kl kp dy mo n pa aE qp qm ql qv qc qe mt mv sw hv tk tn sc) s.heap.size = A at hD ⊢
  have hA : ∀ q : Nat, s.heap.size ≤ q → A q := fun q h => by rw [← hAe]; exact Or.inr h
  have hS : va_S A s.heap s.heap [] := va_S.rf
  have hP : va_P D vwCl (kv_kw ci ad kc kh ks fo kl kp dy mo n pa aE qp qm ql qv qc qe mt mv sw hv tk tn sc) s.heap := hP
  have hinRX1 : ∀ w ∈ u_ws RX1 TX1 6, w ∈ wsX2_takenOn := by decide +kernel
  have hinRX2 : ∀ w ∈ u_ws RX2 TX2 9, w ∈ wsX2_takenOn := by decide +kernel
  generalize hRd : pf_X2_takenOn kc n qm p0 p1 = Rz at hRn
  have hRz := hRn
  refine kv_Q (fun Q hQ => ?_)
  refine W.eq (show entryFrame m args 3 = _ from by rw [hv0, lg_entry_eq]) ?_
  have hl := lv_entry ([.ref (ad 0), .ref (pa p0), .int p1]) (n := 3) (Nat.le_of_ble_eq_true rfl)
  generalize (lg_sl ([.ref (ad 0), .ref (pa p0), .int p1]) ++ List.replicate (3 - (lg_sl ([.ref (ad 0), .ref (pa p0), .int p1])).length) Slot.unset).toArray = ls at hl ⊢
  have hl : lv_has ls 3 [(0, .ref (ad 0)), (1, .ref (pa p0)), (2, .int p1)] := hl
  have e : Rz = pf_X2_takenOn kc n qm p0 p1 := hRd.symm
  rw [pf_X2_takenOn] at e
  refine lv_aload_n hx hb dX2_takenOn_0 rfl (lv_at hl 1 rfl) ?_
  refine va_get (D := D) (ci := 2) (v := .int (qm p0)) (C := RX1) (T := TX1) (N := 6) hx hb hts hinRX1 hown hK hP (24 + p0) (kv_rt hp0) rfl 1 (by decide) (hts (.fieldLink RX2 115 "LicenceKeeper$Right" "measure" "I") (by decide +kernel)) (fun _ h9 => h9) rfl dX2_takenOn_1 ?_
  refine lv_iconst (v := 1) hx hb dX2_takenOn_4 (by decide) ?_
  refine lv_icmp_ne (tgt := 21) hx hb dX2_takenOn_5 (by decide) (fun c_5 => ?_) (fun c_5 => ?_)
  · have e := e.trans (if_neg c_5)
    refine lv_iconst (v := 1) hx hb dX2_takenOn_21 (by decide) ?_
    rw [hQ]
    exact W.iret (v := 1) hx hb hr (fun t ht hW => ⟨⟨1, (), rfl, e, ⟨by rw [ht]; exact hP, by rw [hAe]; exact hD⟩⟩, hS.F ht⟩) hS.2.2 dX2_takenOn_22
  · have e := e.trans (if_pos c_5)
    refine lv_iconst (v := 4) hx hb dX2_takenOn_8 (by decide) ?_
    refine lv_aload_n hx hb dX2_takenOn_9 rfl (lv_at hl 0 rfl) ?_
    refine va_get (D := D) (ci := 3) (v := .ref (ad 1)) (C := RX2) (T := TX2) (N := 9) hx hb hts hinRX2 hown hK hP 0 rfl rfl 0 (by decide) (hts (.fieldLink RX2 9 "LicenceKeeper" "cores" "[I") (by decide +kernel)) (fun _ h9 => h9) rfl dX2_takenOn_10 ?_
    refine lv_iload_n hx hb dX2_takenOn_13 rfl (lv_at hl 2 rfl) ?_
    obtain ⟨hi_14, e⟩ := kv_G_e e hRz
    refine kv_iald hx hb hK hP 1 0 hi_14 dX2_takenOn_14 rfl rfl (fun y_14 ey_14 => ?_)
    have e := kv_T_e e ey_14
    refine va_mmax hx hb (hml.trans hl.1.symm) hown (hts (.methodLink RX2 206 Lib.Math.max.name) (by decide +kernel)) (hts (.static Lib.Math.max.name) (by decide +kernel)) (hts (.initialized "java/lang/Math") (by decide +kernel)) (hts (.code Lib.Math.max.name Lib.Math.max.code 2 (some .int)) (by decide +kernel)) (Nat.le_of_ble_eq_true rfl) (Nat.le_of_ble_eq_true rfl) (Nat.le_of_ble_eq_true rfl) (Nat.le_of_ble_eq_true rfl) dX2_takenOn_15 ?_
    refine lv_topi (fun y_15 ey_15 => ?_)
    have e := kv_T_e e ey_15
    refine lv_goto (tgt := 22) hx hb dX2_takenOn_18 (by decide) ?_
    rw [hQ]
    exact W.iret (v := y_15) hx hb hr (fun t ht hW => ⟨⟨y_15, (), rfl, e, ⟨by rw [ht]; exact hP, by rw [hAe]; exact hD⟩⟩, hS.F ht⟩) hS.2.2 dX2_takenOn_22

def pf_X2_coverOn_40 (fo : Nat → Nat → Int32) (n : Nat) (qp : Nat → Int32) (qm : Nat → Int32) (qv : Nat → Int32) (p0 : Nat) (p1 : Int32) (p2 : Nat → Int32) (k_6 : Int32 → Int32 → Option (Int32)) (x4 : Int32) (x5 : Int32) (z0 : Int32)  : Option (Int32) :=
  kv_G x5 8 (kv_G (qp p0) 4 (kv_T (fo x5.toNatClampNeg (qp p0).toNatClampNeg) (fun y_53 => if z0 = 0 then k_6 x4 (x5 + 1) else if y_53 ≤ 0 then k_6 x4 (x5 + 1) else if (qv p0) < y_53 then k_6 x4 (x5 + 1) else kv_T (x4 ||| (1 <<< (x5 &&& 31))) (fun y_82 => k_6 y_82 (x5 + 1)))))
def pf_X2_coverOn_6b (fo : Nat → Nat → Int32) (n : Nat) (qp : Nat → Int32) (qm : Nat → Int32) (qv : Nat → Int32) (p0 : Nat) (p1 : Int32) (p2 : Nat → Int32)  (k_6 : Int32 → Int32 → Option (Int32)) (x4 : Int32) (x5 : Int32)  : Option (Int32) :=
  if 8 ≤ x5 then some (x4) else if x5 = p1 then pf_X2_coverOn_40 fo n qp qm qv p0 p1 p2 k_6 x4 x5 1 else if (qm p0) = 1 then kv_G x5 8 (kv_T (p2 x5.toNatClampNeg) (fun y_30 => if y_30 = p1 then pf_X2_coverOn_40 fo n qp qm qv p0 p1 p2 k_6 x4 x5 1 else pf_X2_coverOn_40 fo n qp qm qv p0 p1 p2 k_6 x4 x5 0)) else pf_X2_coverOn_40 fo n qp qm qv p0 p1 p2 k_6 x4 x5 0
def pf_X2_coverOn_6 (fo : Nat → Nat → Int32) (n : Nat) (qp : Nat → Int32) (qm : Nat → Int32) (qv : Nat → Int32) (p0 : Nat) (p1 : Int32) (p2 : Nat → Int32)  : Nat → Int32 → Int32 → Option (Int32)
  | 0, _, _ => none
  | nn + 1, x4, x5 => pf_X2_coverOn_6b fo n qp qm qv p0 p1 p2  (pf_X2_coverOn_6 fo n qp qm qv p0 p1 p2  nn) x4 x5
def pf_X2_coverOn (fo : Nat → Nat → Int32) (n : Nat) (qp : Nat → Int32) (qm : Nat → Int32) (qv : Nat → Int32) (p0 : Nat) (p1 : Int32) (p2 : Nat → Int32)  : Option (Int32) :=
  pf_X2_coverOn_6 fo n qp qm qv p0 p1 p2 kv_F 0 0
abbrev rmX2_coverOn : Room := { frames := 0, cells := 0, slots := 0, locals := 0 }
set_option maxHeartbeats 4000000 in
set_option maxRecDepth 100000 in
theorem c_X2_coverOn (l : Launch) (D : va_G) (ci ad : Nat → Nat) (kc : Nat → Int32) (kh : Nat → Int32) (ks : Nat → Int32) (fo : Nat → Nat → Int32) (kl : Nat → Int32) (kp : Nat → Int32) (dy : Int32) (mo : Int32) (n : Nat) (pa : Nat → Nat) (aE : Nat) (qp : Nat → Int32) (qm : Nat → Int32) (ql : Nat → Int32) (qv : Nat → Int32) (qc : Nat → Int32) (qe : Nat → Int32) (mt : Nat → Int32) (mv : Nat → Int32) (sw : Nat → Int32) (hv : Int32) (tk : Nat → Int32) (tn : Nat → Int32) (sc : Nat → Int32) (p0 : Nat) (p1 : Int32) (p2 : Nat → Int32) (hp0 : p0 < n) (ap2 qp2 : Nat) (hap2 : ∀ mt mv sw hv tk tn sc, (kv_kw ci ad kc kh ks fo kl kp dy mo n pa aE qp qm ql qv qc qe mt mv sw hv tk tn sc)[qp2]? = some (ap2, .inl (ci 0, 8, .inl p2))) (hRn : pf_X2_coverOn fo n qp qm qv p0 p1 p2 ≠ none) (sz : Nat) : Met l yX2_coverOn wsX2_coverOn rmX2_coverOn (va_Pc [.ref (ad 0), .ref (pa p0), .int p1, .ref ap2] (kv_pre D ci (kv_kw ci ad kc kh ks fo kl kp dy mo n pa aE qp qm ql qv qc qe mt mv sw hv tk tn sc) sz)) (va_Qi (fun (r : Int32) (u : Unit) => pf_X2_coverOn fo n qp qm qv p0 p1 p2 = some (r)) (fun u t => kv_post D (kv_kw ci ad kc kh ks fo kl kp dy mo n pa aE qp qm ql qv qc qe mt mv sw hv tk tn sc) sz (kv_kw ci ad kc kh ks fo kl kp dy mo n pa aE qp qm ql qv qc qe mt mv sw hv tk tn sc) t) (va_A (kv_kw ci ad kc kh ks fo kl kp dy mo n pa aE qp qm ql qv qc qe mt mv sw hv tk tn sc) sz)) 0 0 (va_A (kv_kw ci ad kc kh ks fo kl kp dy mo n pa aE qp qm ql qv qc qe mt mv sw hv tk tn sc) sz) := by
  refine Met.ofW (cc := cX2_coverOn) (maxL := 8) (ret := (some .int)) (by decide) rfl ?_
  intro p en s m args below meth c s₁ B hml hv
  obtain ⟨hv0, hsz, hP, hK, hD0⟩ := hv
  have hx := B.exec
  have hb := B.bytes
  have hr := B.returns
  have hts := atoms_spec (ws := wsX2_coverOn) B.pre
  have hown : s.vm.findClass RX2 = some m.cls := findClass_of_methodNamed B.named
  have hlocks := B.notSynchronized
  subst hsz
  have hD := hD0.self (sz := s.heap.size)
  generalize hAe : va_A (kv_kw ci ad kc kh ks fo kl kp dy mo n pa aE qp qm ql qv qc qe mt mv sw hv tk tn sc) s.heap.size = A at hD ⊢
  have hA : ∀ q : Nat, s.heap.size ≤ q → A q := fun q h => by rw [← hAe]; exact Or.inr h
  have hS : va_S A s.heap s.heap [] := va_S.rf
  have hP : va_P D vwCl (kv_kw ci ad kc kh ks fo kl kp dy mo n pa aE qp qm ql qv qc qe mt mv sw hv tk tn sc) s.heap := hP
  have hinRX2 : ∀ w ∈ u_ws RX2 TX2 9, w ∈ wsX2_coverOn := by decide +kernel
  have hinRX1 : ∀ w ∈ u_ws RX1 TX1 6, w ∈ wsX2_coverOn := by decide +kernel
  generalize hRd : pf_X2_coverOn fo n qp qm qv p0 p1 p2 = Rz at hRn
  have hRz := hRn
  refine kv_Q (fun Q hQ => ?_)
  refine W.eq (show entryFrame m args 8 = _ from by rw [hv0, lg_entry_eq]) ?_
  have hl := lv_entry ([.ref (ad 0), .ref (pa p0), .int p1, .ref ap2]) (n := 8) (Nat.le_of_ble_eq_true rfl)
  generalize (lg_sl ([.ref (ad 0), .ref (pa p0), .int p1, .ref ap2]) ++ List.replicate (8 - (lg_sl ([.ref (ad 0), .ref (pa p0), .int p1, .ref ap2])).length) Slot.unset).toArray = ls at hl ⊢
  have hl : lv_has ls 8 [(0, .ref (ad 0)), (1, .ref (pa p0)), (2, .int p1), (3, .ref ap2)] := hl
  have e : Rz = pf_X2_coverOn fo n qp qm qv p0 p1 p2 := hRd.symm
  rw [pf_X2_coverOn] at e
  have hb_6 : ∀ (n_6 : Nat), ∀ (x4 : Int32) (x5 : Int32) (H : Heap) (locs : List Loc) (ls : Array Slot), va_P D vwCl (kv_kw ci ad kc kh ks fo kl kp dy mo n pa aE qp qm ql qv qc qe mt mv sw hv tk tn sc) H → va_D A (kv_kw ci ad kc kh ks fo kl kp dy mo n pa aE qp qm ql qv qc qe mt mv sw hv tk tn sc) → va_S A s.heap H locs → lv_has ls 8 [(0, .ref (ad 0)), (1, .ref (pa p0)), (2, .int p1), (3, .ref ap2), (4, .int x4), (5, .int x5)] → Rz = pf_X2_coverOn_6 fo n qp qm qv p0 p1 p2  n_6 x4 x5 → W p l en rmX2_coverOn s m args below meth c H locs 0 0 Q (F0 m 6 ls []) := by
    intro n_6
    induction n_6 with
    | zero =>
      intro x4 x5 H locs ls  _ _ _ _ e
      exact absurd e hRz
    | succ n_6 ih_6 =>
      have hb_40 : ∀ (x4 : Int32) (x5 : Int32) (z0 : Int32) (H : Heap) (locs : List Loc) (ls : Array Slot), va_P D vwCl (kv_kw ci ad kc kh ks fo kl kp dy mo n pa aE qp qm ql qv qc qe mt mv sw hv tk tn sc) H → va_D A (kv_kw ci ad kc kh ks fo kl kp dy mo n pa aE qp qm ql qv qc qe mt mv sw hv tk tn sc) → va_S A s.heap H locs → lv_has ls 8 [(0, .ref (ad 0)), (1, .ref (pa p0)), (2, .int p1), (3, .ref ap2), (4, .int x4), (5, .int x5)] → Rz = pf_X2_coverOn_40 fo n qp qm qv p0 p1 p2 (pf_X2_coverOn_6 fo n qp qm qv p0 p1 p2  n_6) x4 x5 z0 → W p l en rmX2_coverOn s m args below meth c H locs 0 0 Q (F0 m 40 ls [.int z0]) := by
        intro x4 x5 z0 H locs ls  hP hD hS hl e
        rw [pf_X2_coverOn_40] at e
        refine lv_istore (lv' := [(6, .int z0), (0, .ref (ad 0)), (1, .ref (pa p0)), (2, .int p1), (3, .ref ap2), (4, .int x4), (5, .int x5)]) hx hb dX2_coverOn_40 hl (by decide) rfl (fun ls hl => ?_)
        refine lv_aload_n hx hb dX2_coverOn_42 rfl (lv_at hl 1 rfl) ?_
        refine va_get (D := D) (ci := 3) (v := .ref (ad 4)) (C := RX2) (T := TX2) (N := 9) hx hb hts hinRX2 hown hK hP 0 rfl rfl 3 (by decide) (hts (.fieldLink RX2 21 "LicenceKeeper" "found" "[[I") (by decide +kernel)) (fun _ h9 => h9) rfl dX2_coverOn_43 ?_
        refine lv_iload hx hb dX2_coverOn_46 (lv_at hl 6 rfl) ?_
        obtain ⟨hi_48, e⟩ := kv_G_e e hRz
        refine kv_aldr hx hb hK hP 4 3 hi_48 (kv_out hi_48) dX2_coverOn_48 rfl rfl ?_
        refine lv_aload_n hx hb dX2_coverOn_49 rfl (lv_at hl 2 rfl) ?_
        refine va_get (D := D) (ci := 2) (v := .int (qp p0)) (C := RX1) (T := TX1) (N := 6) hx hb hts hinRX1 hown hK hP (24 + p0) (kv_rt hp0) rfl 0 (by decide) (hts (.fieldLink RX2 86 "LicenceKeeper$Right" "product" "I") (by decide +kernel)) (fun _ h9 => h9) rfl dX2_coverOn_50 ?_
        obtain ⟨hi_53, e⟩ := kv_G_e e hRz
        refine kv_iald hx hb hK hP (15 + x5.toNatClampNeg) 0 hi_53 dX2_coverOn_53 (kv_row hi_48) rfl (fun y_53 ey_53 => ?_)
        have e := kv_T_e e ey_53
        refine lv_istore (lv' := [(7, .int y_53), (6, .int z0), (0, .ref (ad 0)), (1, .ref (pa p0)), (2, .int p1), (3, .ref ap2), (4, .int x4), (5, .int x5)]) hx hb dX2_coverOn_54 hl (by decide) rfl (fun ls hl => ?_)
        refine lv_iload hx hb dX2_coverOn_56 (lv_at hl 1 rfl) ?_
        refine lv_if_eq (tgt := 84) hx hb dX2_coverOn_58 (by decide) (fun c_58 => ?_) (fun c_58 => ?_)
        · have e := e.trans (if_pos c_58)
          refine lv_iinc (v := x5 + 1) (lv' := [(5, .int (x5 + 1)), (7, .int y_53), (6, .int z0), (0, .ref (ad 0)), (1, .ref (pa p0)), (2, .int p1), (3, .ref ap2), (4, .int x4)]) hx hb dX2_coverOn_84 hl (k := 7) rfl rfl (by decide) rfl (fun ls hl => ?_)
          refine lv_goto (tgt := 6) hx hb dX2_coverOn_87 (by decide) ?_
          exact ih_6 x4 (x5 + 1) _ _ _  hP hD hS (lv_sub hl [3, 4, 5, 6, 7, 0] rfl) e
        · have e := e.trans (if_neg c_58)
          refine lv_iload hx hb dX2_coverOn_61 (lv_at hl 0 rfl) ?_
          refine lv_if_le (tgt := 84) hx hb dX2_coverOn_63 (by decide) (fun c_63 => ?_) (fun c_63 => ?_)
          · have e := e.trans (if_pos c_63)
            refine lv_iinc (v := x5 + 1) (lv' := [(5, .int (x5 + 1)), (7, .int y_53), (6, .int z0), (0, .ref (ad 0)), (1, .ref (pa p0)), (2, .int p1), (3, .ref ap2), (4, .int x4)]) hx hb dX2_coverOn_84 hl (k := 7) rfl rfl (by decide) rfl (fun ls hl => ?_)
            refine lv_goto (tgt := 6) hx hb dX2_coverOn_87 (by decide) ?_
            exact ih_6 x4 (x5 + 1) _ _ _  hP hD hS (lv_sub hl [3, 4, 5, 6, 7, 0] rfl) e
          · have e := e.trans (if_neg c_63)
            refine lv_iload hx hb dX2_coverOn_66 (lv_at hl 0 rfl) ?_
            refine lv_aload_n hx hb dX2_coverOn_68 rfl (lv_at hl 3 rfl) ?_
            refine va_get (D := D) (ci := 2) (v := .int (qv p0)) (C := RX1) (T := TX1) (N := 6) hx hb hts hinRX1 hown hK hP (24 + p0) (kv_rt hp0) rfl 3 (by decide) (hts (.fieldLink RX2 89 "LicenceKeeper$Right" "version" "I") (by decide +kernel)) (fun _ h9 => h9) rfl dX2_coverOn_69 ?_
            refine lv_icmp_gt (tgt := 84) hx hb dX2_coverOn_72 (by decide) (fun c_72 => ?_) (fun c_72 => ?_)
            · have e := e.trans (if_pos c_72)
              refine lv_iinc (v := x5 + 1) (lv' := [(5, .int (x5 + 1)), (7, .int y_53), (6, .int z0), (0, .ref (ad 0)), (1, .ref (pa p0)), (2, .int p1), (3, .ref ap2), (4, .int x4)]) hx hb dX2_coverOn_84 hl (k := 7) rfl rfl (by decide) rfl (fun ls hl => ?_)
              refine lv_goto (tgt := 6) hx hb dX2_coverOn_87 (by decide) ?_
              exact ih_6 x4 (x5 + 1) _ _ _  hP hD hS (lv_sub hl [3, 4, 5, 6, 7, 0] rfl) e
            · have e := e.trans (if_neg c_72)
              refine lv_iload hx hb dX2_coverOn_75 (lv_at hl 6 rfl) ?_
              refine lv_iconst (v := 1) hx hb dX2_coverOn_77 (by decide) ?_
              refine lv_iload hx hb dX2_coverOn_78 (lv_at hl 7 rfl) ?_
              refine lv_ishl hx hb dX2_coverOn_80 ?_
              refine lv_ior hx hb dX2_coverOn_81 ?_
              refine lv_topi (fun y_82 ey_82 => ?_)
              have e := kv_T_e e ey_82
              refine lv_istore (lv' := [(4, .int y_82), (7, .int y_53), (6, .int z0), (0, .ref (ad 0)), (1, .ref (pa p0)), (2, .int p1), (3, .ref ap2), (5, .int x5)]) hx hb dX2_coverOn_82 hl (by decide) rfl (fun ls hl => ?_)
              refine lv_iinc (v := x5 + 1) (lv' := [(5, .int (x5 + 1)), (4, .int y_82), (7, .int y_53), (6, .int z0), (0, .ref (ad 0)), (1, .ref (pa p0)), (2, .int p1), (3, .ref ap2)]) hx hb dX2_coverOn_84 hl (k := 7) rfl rfl (by decide) rfl (fun ls hl => ?_)
              refine lv_goto (tgt := 6) hx hb dX2_coverOn_87 (by decide) ?_
              exact ih_6 y_82 (x5 + 1) _ _ _  hP hD hS (lv_sub hl [4, 5, 6, 7, 1, 0] rfl) e
      intro x4 x5 H locs ls  hP hD hS hl e
      rw [pf_X2_coverOn_6, pf_X2_coverOn_6b] at e
      refine lv_iload hx hb dX2_coverOn_6 (lv_at hl 5 rfl) ?_
      refine lv_bipush (v := 8) hx hb dX2_coverOn_8 (by decide) ?_
      refine lv_icmp_ge (tgt := 90) hx hb dX2_coverOn_10 (by decide) (fun c_10 => ?_) (fun c_10 => ?_)
      · have e := e.trans (if_pos c_10)
        refine lv_iload hx hb dX2_coverOn_90 (lv_at hl 4 rfl) ?_
        rw [hQ]
        exact W.iret (v := x4) hx hb hr (fun t ht hW => ⟨⟨x4, (), rfl, e, ⟨by rw [ht]; exact hP, by rw [hAe]; exact hD⟩⟩, hS.F ht⟩) hS.2.2 dX2_coverOn_92
      · have e := e.trans (if_neg c_10)
        refine lv_iload hx hb dX2_coverOn_13 (lv_at hl 5 rfl) ?_
        refine lv_iload_n hx hb dX2_coverOn_15 rfl (lv_at hl 2 rfl) ?_
        refine lv_icmp_eq (tgt := 35) hx hb dX2_coverOn_16 (by decide) (fun c_16 => ?_) (fun c_16 => ?_)
        · have e := e.trans (if_pos c_16)
          refine lv_iconst (v := 1) hx hb dX2_coverOn_35 (by decide) ?_
          refine lv_goto (tgt := 40) hx hb dX2_coverOn_36 (by decide) ?_
          exact hb_40 x4 x5 1 _ _ _  hP hD hS (lv_sub hl [0, 1, 2, 3, 4, 5] rfl) e
        · have e := e.trans (if_neg c_16)
          refine lv_aload_n hx hb dX2_coverOn_19 rfl (lv_at hl 1 rfl) ?_
          refine va_get (D := D) (ci := 2) (v := .int (qm p0)) (C := RX1) (T := TX1) (N := 6) hx hb hts hinRX1 hown hK hP (24 + p0) (kv_rt hp0) rfl 1 (by decide) (hts (.fieldLink RX2 115 "LicenceKeeper$Right" "measure" "I") (by decide +kernel)) (fun _ h9 => h9) rfl dX2_coverOn_20 ?_
          refine lv_iconst (v := 1) hx hb dX2_coverOn_23 (by decide) ?_
          refine lv_icmp_ne (tgt := 39) hx hb dX2_coverOn_24 (by decide) (fun c_24 => ?_) (fun c_24 => ?_)
          · have e := e.trans (if_neg c_24)
            refine lv_iconst (v := 0) hx hb dX2_coverOn_39 (by decide) ?_
            exact hb_40 x4 x5 0 _ _ _  hP hD hS (lv_sub hl [0, 1, 2, 3, 4, 5] rfl) e
          · have e := e.trans (if_pos c_24)
            refine lv_aload_n hx hb dX2_coverOn_27 rfl (lv_at hl 3 rfl) ?_
            refine lv_iload hx hb dX2_coverOn_28 (lv_at hl 5 rfl) ?_
            obtain ⟨hi_30, e⟩ := kv_G_e e hRz
            refine kv_iald hx hb hK hP qp2 0 hi_30 dX2_coverOn_30 (hap2 _ _ _ _ _ _ _) rfl (fun y_30 ey_30 => ?_)
            have e := kv_T_e e ey_30
            refine lv_iload_n hx hb dX2_coverOn_31 rfl (lv_at hl 2 rfl) ?_
            refine lv_icmp_ne (tgt := 39) hx hb dX2_coverOn_32 (by decide) (fun c_32 => ?_) (fun c_32 => ?_)
            · have e := e.trans (if_neg c_32)
              refine lv_iconst (v := 0) hx hb dX2_coverOn_39 (by decide) ?_
              exact hb_40 x4 x5 0 _ _ _  hP hD hS (lv_sub hl [0, 1, 2, 3, 4, 5] rfl) e
            · have e := e.trans (if_pos c_32)
              refine lv_iconst (v := 1) hx hb dX2_coverOn_35 (by decide) ?_
              refine lv_goto (tgt := 40) hx hb dX2_coverOn_36 (by decide) ?_
              exact hb_40 x4 x5 1 _ _ _  hP hD hS (lv_sub hl [0, 1, 2, 3, 4, 5] rfl) e
  refine lv_iconst (v := 0) hx hb dX2_coverOn_0 (by decide) ?_
  refine lv_istore (lv' := [(4, .int 0), (0, .ref (ad 0)), (1, .ref (pa p0)), (2, .int p1), (3, .ref ap2)]) hx hb dX2_coverOn_1 hl (by decide) rfl (fun ls hl => ?_)
  refine lv_iconst (v := 0) hx hb dX2_coverOn_3 (by decide) ?_
  refine lv_istore (lv' := [(5, .int 0), (4, .int 0), (0, .ref (ad 0)), (1, .ref (pa p0)), (2, .int p1), (3, .ref ap2)]) hx hb dX2_coverOn_4 hl (by decide) rfl (fun ls hl => ?_)
  exact hb_6 kv_F 0 0 _ _ _  hP hD hS (lv_sub hl [2, 3, 4, 5, 1, 0] rfl) e

def pf_X2_takeUp_2b (kc : Nat → Int32) (fo : Nat → Nat → Int32) (n : Nat) (qp : Nat → Int32) (qm : Nat → Int32) (qv : Nat → Int32) (p0 : Nat) (p1 : Nat → Int32)  (k_2 : Int32 → (Nat → Int32) → (Nat → Int32) → Option ((Nat → Int32) × (Nat → Int32))) (x3 : Int32) (mt : Nat → Int32) (mv : Nat → Int32) : Option ((Nat → Int32) × (Nat → Int32)) :=
  if 8 ≤ x3 then some (mt, mv) else kv_q1 (pf_X2_takenOn kc n qm p0 x3) (fun r_19 => kv_G x3 8 (kv_T (upd mt x3.toNatClampNeg r_19) (fun g_22 => kv_q1 (pf_X2_coverOn fo n qp qm qv p0 x3 p1) (fun r_35 => kv_G x3 8 (kv_T (upd mv x3.toNatClampNeg r_35) (fun g_38 => k_2 (x3 + 1) g_22 g_38))))))
def pf_X2_takeUp_2 (kc : Nat → Int32) (fo : Nat → Nat → Int32) (n : Nat) (qp : Nat → Int32) (qm : Nat → Int32) (qv : Nat → Int32) (p0 : Nat) (p1 : Nat → Int32)  : Nat → Int32 → (Nat → Int32) → (Nat → Int32) → Option ((Nat → Int32) × (Nat → Int32))
  | 0, _, _, _ => none
  | nn + 1, x3, mt, mv => pf_X2_takeUp_2b kc fo n qp qm qv p0 p1  (pf_X2_takeUp_2 kc fo n qp qm qv p0 p1  nn) x3 mt mv
def pf_X2_takeUp (kc : Nat → Int32) (fo : Nat → Nat → Int32) (n : Nat) (qp : Nat → Int32) (qm : Nat → Int32) (qv : Nat → Int32) (p0 : Nat) (p1 : Nat → Int32) (mt : Nat → Int32) (mv : Nat → Int32) : Option ((Nat → Int32) × (Nat → Int32)) :=
  pf_X2_takeUp_2 kc fo n qp qm qv p0 p1 kv_F 0 mt mv
abbrev rmX2_takeUp : Room := { frames := 2, cells := 0, slots := 0, locals := 36 }
set_option maxHeartbeats 4000000 in
set_option maxRecDepth 100000 in
theorem c_X2_takeUp (l : Launch) (D : va_G) (ci ad : Nat → Nat) (kc : Nat → Int32) (kh : Nat → Int32) (ks : Nat → Int32) (fo : Nat → Nat → Int32) (kl : Nat → Int32) (kp : Nat → Int32) (dy : Int32) (mo : Int32) (n : Nat) (pa : Nat → Nat) (aE : Nat) (qp : Nat → Int32) (qm : Nat → Int32) (ql : Nat → Int32) (qv : Nat → Int32) (qc : Nat → Int32) (qe : Nat → Int32) (mt : Nat → Int32) (mv : Nat → Int32) (sw : Nat → Int32) (hv : Int32) (tk : Nat → Int32) (tn : Nat → Int32) (sc : Nat → Int32) (p0 : Nat) (p1 : Nat → Int32) (hp0 : p0 < n) (ap1 qp1 : Nat) (hap1 : ∀ mt mv sw hv tk tn sc, (kv_kw ci ad kc kh ks fo kl kp dy mo n pa aE qp qm ql qv qc qe mt mv sw hv tk tn sc)[qp1]? = some (ap1, .inl (ci 0, 8, .inl p1))) (hRn : pf_X2_takeUp kc fo n qp qm qv p0 p1 mt mv ≠ none) (sz : Nat) : Met l yX2_takeUp wsX2_takeUp rmX2_takeUp (va_Pc [.ref (ad 0), .ref (pa p0), .ref ap1] (kv_pre D ci (kv_kw ci ad kc kh ks fo kl kp dy mo n pa aE qp qm ql qv qc qe mt mv sw hv tk tn sc) sz)) (va_Qv (fun (u : (Nat → Int32) × (Nat → Int32)) => pf_X2_takeUp kc fo n qp qm qv p0 p1 mt mv = some (u)) (fun u t => kv_post D (kv_kw ci ad kc kh ks fo kl kp dy mo n pa aE qp qm ql qv qc qe mt mv sw hv tk tn sc) sz (kv_kw ci ad kc kh ks fo kl kp dy mo n pa aE qp qm ql qv qc qe u.1 u.2 sw hv tk tn sc) t) (va_A (kv_kw ci ad kc kh ks fo kl kp dy mo n pa aE qp qm ql qv qc qe mt mv sw hv tk tn sc) sz)) 0 0 (va_A (kv_kw ci ad kc kh ks fo kl kp dy mo n pa aE qp qm ql qv qc qe mt mv sw hv tk tn sc) sz) := by
  refine Met.ofW (cc := cX2_takeUp) (maxL := 4) (ret := none) (by decide) rfl ?_
  intro p en s m args below meth c s₁ B hml hv
  obtain ⟨hv0, hsz, hP, hK, hD0⟩ := hv
  have hx := B.exec
  have hb := B.bytes
  have hr := B.returns
  have hts := atoms_spec (ws := wsX2_takeUp) B.pre
  have hown : s.vm.findClass RX2 = some m.cls := findClass_of_methodNamed B.named
  have hlocks := B.notSynchronized
  subst hsz
  have hD := hD0.self (sz := s.heap.size)
  generalize hAe : va_A (kv_kw ci ad kc kh ks fo kl kp dy mo n pa aE qp qm ql qv qc qe mt mv sw hv tk tn sc) s.heap.size = A at hD ⊢
  have hA : ∀ q : Nat, s.heap.size ≤ q → A q := fun q h => by rw [← hAe]; exact Or.inr h
  have hS : va_S A s.heap s.heap [] := va_S.rf
  have hP : va_P D vwCl (kv_kw ci ad kc kh ks fo kl kp dy mo n pa aE qp qm ql qv qc qe mt mv sw hv tk tn sc) s.heap := hP
  have hinRX2 : ∀ w ∈ u_ws RX2 TX2 9, w ∈ wsX2_takeUp := by decide +kernel
  have hinRX0 : ∀ w ∈ u_ws RX0 TX0 7, w ∈ wsX2_takeUp := by decide +kernel
  generalize hRd : pf_X2_takeUp kc fo n qp qm qv p0 p1 mt mv = Rz at hRn
  have hRz := hRn
  refine kv_Q (fun Q hQ => ?_)
  refine W.eq (show entryFrame m args 4 = _ from by rw [hv0, lg_entry_eq]) ?_
  have hl := lv_entry ([.ref (ad 0), .ref (pa p0), .ref ap1]) (n := 4) (Nat.le_of_ble_eq_true rfl)
  generalize (lg_sl ([.ref (ad 0), .ref (pa p0), .ref ap1]) ++ List.replicate (4 - (lg_sl ([.ref (ad 0), .ref (pa p0), .ref ap1])).length) Slot.unset).toArray = ls at hl ⊢
  have hl : lv_has ls 4 [(0, .ref (ad 0)), (1, .ref (pa p0)), (2, .ref ap1)] := hl
  have e : Rz = pf_X2_takeUp kc fo n qp qm qv p0 p1 mt mv := hRd.symm
  rw [pf_X2_takeUp] at e
  have hb_2 : ∀ (n_2 : Nat), ∀ (x3 : Int32) (mt : Nat → Int32) (mv : Nat → Int32) (H : Heap) (locs : List Loc) (ls : Array Slot), va_P D vwCl (kv_kw ci ad kc kh ks fo kl kp dy mo n pa aE qp qm ql qv qc qe mt mv sw hv tk tn sc) H → va_D A (kv_kw ci ad kc kh ks fo kl kp dy mo n pa aE qp qm ql qv qc qe mt mv sw hv tk tn sc) → va_S A s.heap H locs → lv_has ls 4 [(0, .ref (ad 0)), (1, .ref (pa p0)), (2, .ref ap1), (3, .int x3)] → Rz = pf_X2_takeUp_2 kc fo n qp qm qv p0 p1  n_2 x3 mt mv → W p l en rmX2_takeUp s m args below meth c H locs 0 0 Q (F0 m 2 ls []) := by
    intro n_2
    induction n_2 with
    | zero =>
      intro x3 mt mv H locs ls  _ _ _ _ e
      exact absurd e hRz
    | succ n_2 ih_2 =>
      intro x3 mt mv H locs ls  hP hD hS hl e
      rw [pf_X2_takeUp_2, pf_X2_takeUp_2b] at e
      refine lv_iload_n hx hb dX2_takeUp_2 rfl (lv_at hl 3 rfl) ?_
      refine lv_bipush (v := 8) hx hb dX2_takeUp_3 (by decide) ?_
      refine lv_icmp_ge (tgt := 45) hx hb dX2_takeUp_5 (by decide) (fun c_5 => ?_) (fun c_5 => ?_)
      · have e := e.trans (if_pos c_5)
        rw [hQ]
        exact W.vret hx hb hr (fun t ht hW => ⟨⟨(mt, mv), rfl, e, ⟨by rw [ht]; exact hP, by rw [hAe]; exact hD⟩⟩, hS.F ht⟩) hS.2.2 dX2_takeUp_45
      · have e := e.trans (if_neg c_5)
        refine lv_aload_n hx hb dX2_takeUp_8 rfl (lv_at hl 0 rfl) ?_
        refine va_get (D := D) (ci := 3) (v := .ref (ad 8)) (C := RX2) (T := TX2) (N := 9) hx hb hts hinRX2 hown hK hP 0 rfl rfl 7 (by decide) (hts (.fieldLink RX2 40 "LicenceKeeper" "layings" "LLicenceKeeper$Layings;") (by decide +kernel)) (fun _ h9 => h9) rfl dX2_takeUp_9 ?_
        refine va_get (D := D) (ci := 1) (v := .ref (ad 9)) (C := RX0) (T := TX0) (N := 7) hx hb hts hinRX0 hown hK hP 8 rfl rfl 0 (by decide) (hts (.fieldLink RX2 221 "LicenceKeeper$Layings" "machineTakes" "[I") (by decide +kernel)) (fun _ h9 => h9) rfl dX2_takeUp_12 ?_
        refine lv_iload_n hx hb dX2_takeUp_15 rfl (lv_at hl 3 rfl) ?_
        refine lv_aload_n hx hb dX2_takeUp_16 rfl (lv_at hl 0 rfl) ?_
        refine lv_aload_n hx hb dX2_takeUp_17 rfl (lv_at hl 1 rfl) ?_
        refine lv_iload_n hx hb dX2_takeUp_18 rfl (lv_at hl 3 rfl) ?_
        refine kv_calli (va_runV (As := [.ref (pa p0), .int x3]) (rest := [.int x3, .ref (ad 9)]) ⟨hx, hb, hml, hown, hts⟩ (c_X2_takenOn l D ci ad kc kh ks fo kl kp dy mo n pa aE qp qm ql qv qc qe mt mv sw hv tk tn sc p0 x3 hp0 (kv_q1_n e hRz) H.size) (cwV 2 hts gX2_takeUp_X2_takenOn rfl rfl rfl (by decide +kernel) ⟨Nat.le_of_ble_eq_true rfl, Nat.le_of_ble_eq_true rfl⟩) (kv_preV hK hP hD (r := (RX2, TX2, 9)) (q0 := 0) (k := 3) rfl rfl rfl) rfl rfl hl.1 rfl (lv_room (Nat.le_of_ble_eq_true rfl)) dX2_takeUp_19 ⟨Nat.le_of_ble_eq_true rfl, Nat.le_of_ble_eq_true rfl⟩) hD hS hA (fun r_19 u_19 H locs hw_19 hP hD hS => ?_)
        have e := kv_q1_e e hw_19
        obtain ⟨hi_22, e⟩ := kv_G_e e hRz
        refine kv_iast hx hb hK hP hD hS 9 0 (fun g_22 => (kv_kw ci ad kc kh ks fo kl kp dy mo n pa aE qp qm ql qv qc qe g_22 mv sw hv tk tn sc)) hi_22 dX2_takeUp_22 rfl rfl (fun _ => rfl) (fun g_22 H locs eg_22 hP hD hS => ?_)
        have e := kv_T_e e eg_22
        refine lv_aload_n hx hb dX2_takeUp_23 rfl (lv_at hl 0 rfl) ?_
        refine va_get (D := D) (ci := 3) (v := .ref (ad 8)) (C := RX2) (T := TX2) (N := 9) hx hb hts hinRX2 hown hK hP 0 rfl rfl 7 (by decide) (hts (.fieldLink RX2 40 "LicenceKeeper" "layings" "LLicenceKeeper$Layings;") (by decide +kernel)) (fun _ h9 => h9) rfl dX2_takeUp_24 ?_
        refine va_get (D := D) (ci := 1) (v := .ref (ad 10)) (C := RX0) (T := TX0) (N := 7) hx hb hts hinRX0 hown hK hP 8 rfl rfl 1 (by decide) (hts (.fieldLink RX2 228 "LicenceKeeper$Layings" "machineCovers" "[I") (by decide +kernel)) (fun _ h9 => h9) rfl dX2_takeUp_27 ?_
        refine lv_iload_n hx hb dX2_takeUp_30 rfl (lv_at hl 3 rfl) ?_
        refine lv_aload_n hx hb dX2_takeUp_31 rfl (lv_at hl 0 rfl) ?_
        refine lv_aload_n hx hb dX2_takeUp_32 rfl (lv_at hl 1 rfl) ?_
        refine lv_iload_n hx hb dX2_takeUp_33 rfl (lv_at hl 3 rfl) ?_
        refine lv_aload_n hx hb dX2_takeUp_34 rfl (lv_at hl 2 rfl) ?_
        refine kv_calli (va_runV (As := [.ref (pa p0), .int x3, .ref ap1]) (rest := [.int x3, .ref (ad 10)]) ⟨hx, hb, hml, hown, hts⟩ (c_X2_coverOn l D ci ad kc kh ks fo kl kp dy mo n pa aE qp qm ql qv qc qe g_22 mv sw hv tk tn sc p0 x3 p1 hp0 ap1 qp1 hap1 (kv_q1_n e hRz) H.size) (cwV 3 hts gX2_takeUp_X2_coverOn rfl rfl rfl (by decide +kernel) ⟨Nat.le_of_ble_eq_true rfl, Nat.le_of_ble_eq_true rfl⟩) (kv_preV hK hP hD (r := (RX2, TX2, 9)) (q0 := 0) (k := 3) rfl rfl rfl) rfl rfl hl.1 rfl (lv_room (Nat.le_of_ble_eq_true rfl)) dX2_takeUp_35 ⟨Nat.le_of_ble_eq_true rfl, Nat.le_of_ble_eq_true rfl⟩) hD hS hA (fun r_35 u_35 H locs hw_35 hP hD hS => ?_)
        have e := kv_q1_e e hw_35
        obtain ⟨hi_38, e⟩ := kv_G_e e hRz
        refine kv_iast hx hb hK hP hD hS 10 0 (fun g_38 => (kv_kw ci ad kc kh ks fo kl kp dy mo n pa aE qp qm ql qv qc qe g_22 g_38 sw hv tk tn sc)) hi_38 dX2_takeUp_38 rfl rfl (fun _ => rfl) (fun g_38 H locs eg_38 hP hD hS => ?_)
        have e := kv_T_e e eg_38
        refine lv_iinc (v := x3 + 1) (lv' := [(3, .int (x3 + 1)), (0, .ref (ad 0)), (1, .ref (pa p0)), (2, .ref ap1)]) hx hb dX2_takeUp_39 hl (k := 3) rfl rfl (by decide) rfl (fun ls hl => ?_)
        refine lv_goto (tgt := 2) hx hb dX2_takeUp_42 (by decide) ?_
        exact ih_2 (x3 + 1) g_22 g_38 _ _ _  hP hD hS (lv_sub hl [1, 2, 3, 0] rfl) e
  refine lv_iconst (v := 0) hx hb dX2_takeUp_0 (by decide) ?_
  refine lv_istore_n (lv' := [(3, .int 0), (0, .ref (ad 0)), (1, .ref (pa p0)), (2, .ref ap1)]) hx hb dX2_takeUp_1 rfl hl (by decide) rfl (fun ls hl => ?_)
  exact hb_2 kv_F 0 mt mv _ _ _  hP hD hS (lv_sub hl [1, 2, 3, 0] rfl) e

def pf_X2_startLayings_36 (kc : Nat → Int32) (fo : Nat → Nat → Int32) (kp : Nat → Int32) (p0 : Int32) (k_9 : Int32 → (Nat → Int32) → Int32 → (Nat → Int32) → Option ((Nat → Int32) × Int32 × (Nat → Int32))) (x2 : Int32) (z1 : Int32) (z2 : Int32) (sw : Nat → Int32) (hv : Int32) (tk : Nat → Int32) : Option ((Nat → Int32) × Int32 × (Nat → Int32)) :=
  kv_q1 (pf_X2_weightOn kc fo kp x2 p0) (fun r_39 => kv_q2 (pf_X0_weigh z1 z2 r_39 sw hv) (fun o0_42 o1_42 => k_9 (x2 + 1) o0_42 o1_42 tk))
def pf_X2_startLayings_9b (kc : Nat → Int32) (fo : Nat → Nat → Int32) (kp : Nat → Int32) (p0 : Int32)  (k_9 : Int32 → (Nat → Int32) → Int32 → (Nat → Int32) → Option ((Nat → Int32) × Int32 × (Nat → Int32))) (x2 : Int32) (sw : Nat → Int32) (hv : Int32) (tk : Nat → Int32) : Option ((Nat → Int32) × Int32 × (Nat → Int32)) :=
  if 8 ≤ x2 then some (sw, hv, tk) else kv_G x2 8 (kv_G p0 4 (kv_T (fo x2.toNatClampNeg p0.toNatClampNeg) (fun y_27 => if y_27 ≤ 0 then pf_X2_startLayings_36 kc fo kp p0 k_9 x2 x2 0 sw hv tk else pf_X2_startLayings_36 kc fo kp p0 k_9 x2 x2 1 sw hv tk)))
def pf_X2_startLayings_9 (kc : Nat → Int32) (fo : Nat → Nat → Int32) (kp : Nat → Int32) (p0 : Int32)  : Nat → Int32 → (Nat → Int32) → Int32 → (Nat → Int32) → Option ((Nat → Int32) × Int32 × (Nat → Int32))
  | 0, _, _, _, _ => none
  | nn + 1, x2, sw, hv, tk => pf_X2_startLayings_9b kc fo kp p0  (pf_X2_startLayings_9 kc fo kp p0  nn) x2 sw hv tk
def pf_X2_startLayings (kc : Nat → Int32) (fo : Nat → Nat → Int32) (kp : Nat → Int32) (p0 : Int32) (sw : Nat → Int32) (hv : Int32) (tk : Nat → Int32) : Option ((Nat → Int32) × Int32 × (Nat → Int32)) :=
  kv_q2 (pf_X0_clearAll hv tk) (fun o0_4 o1_4 => pf_X2_startLayings_9 kc fo kp p0 kv_F 0 sw o0_4 o1_4)
abbrev rmX2_startLayings : Room := { frames := 2, cells := 0, slots := 0, locals := 43 }
set_option maxHeartbeats 4000000 in
set_option maxRecDepth 100000 in
theorem c_X2_startLayings (l : Launch) (D : va_G) (ci ad : Nat → Nat) (kc : Nat → Int32) (kh : Nat → Int32) (ks : Nat → Int32) (fo : Nat → Nat → Int32) (kl : Nat → Int32) (kp : Nat → Int32) (dy : Int32) (mo : Int32) (n : Nat) (pa : Nat → Nat) (aE : Nat) (qp : Nat → Int32) (qm : Nat → Int32) (ql : Nat → Int32) (qv : Nat → Int32) (qc : Nat → Int32) (qe : Nat → Int32) (mt : Nat → Int32) (mv : Nat → Int32) (sw : Nat → Int32) (hv : Int32) (tk : Nat → Int32) (tn : Nat → Int32) (sc : Nat → Int32) (p0 : Int32)  (hRn : pf_X2_startLayings kc fo kp p0 sw hv tk ≠ none) (sz : Nat) : Met l yX2_startLayings wsX2_startLayings rmX2_startLayings (va_Pc [.ref (ad 0), .int p0] (kv_pre D ci (kv_kw ci ad kc kh ks fo kl kp dy mo n pa aE qp qm ql qv qc qe mt mv sw hv tk tn sc) sz)) (va_Qv (fun (u : (Nat → Int32) × Int32 × (Nat → Int32)) => pf_X2_startLayings kc fo kp p0 sw hv tk = some (u)) (fun u t => kv_post D (kv_kw ci ad kc kh ks fo kl kp dy mo n pa aE qp qm ql qv qc qe mt mv sw hv tk tn sc) sz (kv_kw ci ad kc kh ks fo kl kp dy mo n pa aE qp qm ql qv qc qe mt mv u.1 u.2.1 u.2.2 tn sc) t) (va_A (kv_kw ci ad kc kh ks fo kl kp dy mo n pa aE qp qm ql qv qc qe mt mv sw hv tk tn sc) sz)) 0 0 (va_A (kv_kw ci ad kc kh ks fo kl kp dy mo n pa aE qp qm ql qv qc qe mt mv sw hv tk tn sc) sz) := by
  refine Met.ofW (cc := cX2_startLayings) (maxL := 3) (ret := none) (by decide) rfl ?_
  intro p en s m args below meth c s₁ B hml hv
  obtain ⟨hv0, hsz, hP, hK, hD0⟩ := hv
  have hx := B.exec
  have hb := B.bytes
  have hr := B.returns
  have hts := atoms_spec (ws := wsX2_startLayings) B.pre
  have hown : s.vm.findClass RX2 = some m.cls := findClass_of_methodNamed B.named
  have hlocks := B.notSynchronized
  subst hsz
  have hD := hD0.self (sz := s.heap.size)
  generalize hAe : va_A (kv_kw ci ad kc kh ks fo kl kp dy mo n pa aE qp qm ql qv qc qe mt mv sw hv tk tn sc) s.heap.size = A at hD ⊢
  have hA : ∀ q : Nat, s.heap.size ≤ q → A q := fun q h => by rw [← hAe]; exact Or.inr h
  have hS : va_S A s.heap s.heap [] := va_S.rf
  have hP : va_P D vwCl (kv_kw ci ad kc kh ks fo kl kp dy mo n pa aE qp qm ql qv qc qe mt mv sw hv tk tn sc) s.heap := hP
  have hinRX2 : ∀ w ∈ u_ws RX2 TX2 9, w ∈ wsX2_startLayings := by decide +kernel
  generalize hRd : pf_X2_startLayings kc fo kp p0 sw hv tk = Rz at hRn
  have hRz := hRn
  refine kv_Q (fun Q hQ => ?_)
  refine W.eq (show entryFrame m args 3 = _ from by rw [hv0, lg_entry_eq]) ?_
  have hl := lv_entry ([.ref (ad 0), .int p0]) (n := 3) (Nat.le_of_ble_eq_true rfl)
  generalize (lg_sl ([.ref (ad 0), .int p0]) ++ List.replicate (3 - (lg_sl ([.ref (ad 0), .int p0])).length) Slot.unset).toArray = ls at hl ⊢
  have hl : lv_has ls 3 [(0, .ref (ad 0)), (1, .int p0)] := hl
  have e : Rz = pf_X2_startLayings kc fo kp p0 sw hv tk := hRd.symm
  rw [pf_X2_startLayings] at e
  have hb_9 : ∀ (n_9 : Nat), ∀ (x2 : Int32) (sw : Nat → Int32) (hv : Int32) (tk : Nat → Int32) (H : Heap) (locs : List Loc) (ls : Array Slot), va_P D vwCl (kv_kw ci ad kc kh ks fo kl kp dy mo n pa aE qp qm ql qv qc qe mt mv sw hv tk tn sc) H → va_D A (kv_kw ci ad kc kh ks fo kl kp dy mo n pa aE qp qm ql qv qc qe mt mv sw hv tk tn sc) → va_S A s.heap H locs → lv_has ls 3 [(0, .ref (ad 0)), (1, .int p0), (2, .int x2)] → Rz = pf_X2_startLayings_9 kc fo kp p0  n_9 x2 sw hv tk → W p l en rmX2_startLayings s m args below meth c H locs 0 0 Q (F0 m 9 ls []) := by
    intro n_9
    induction n_9 with
    | zero =>
      intro x2 sw hv tk H locs ls  _ _ _ _ e
      exact absurd e hRz
    | succ n_9 ih_9 =>
      have hb_36 : ∀ (x2 : Int32) (z1 : Int32) (z2 : Int32) (sw : Nat → Int32) (hv : Int32) (tk : Nat → Int32) (H : Heap) (locs : List Loc) (ls : Array Slot), va_P D vwCl (kv_kw ci ad kc kh ks fo kl kp dy mo n pa aE qp qm ql qv qc qe mt mv sw hv tk tn sc) H → va_D A (kv_kw ci ad kc kh ks fo kl kp dy mo n pa aE qp qm ql qv qc qe mt mv sw hv tk tn sc) → va_S A s.heap H locs → lv_has ls 3 [(0, .ref (ad 0)), (1, .int p0), (2, .int x2)] → Rz = pf_X2_startLayings_36 kc fo kp p0 (pf_X2_startLayings_9 kc fo kp p0  n_9) x2 z1 z2 sw hv tk → W p l en rmX2_startLayings s m args below meth c H locs 0 0 Q (F0 m 36 ls [.int z2, .int z1, .ref (ad 8)]) := by
        intro x2 z1 z2 sw hv tk H locs ls  hP hD hS hl e
        rw [pf_X2_startLayings_36] at e
        refine lv_aload_n hx hb dX2_startLayings_36 rfl (lv_at hl 0 rfl) ?_
        refine lv_iload_n hx hb dX2_startLayings_37 rfl (lv_at hl 2 rfl) ?_
        refine lv_iload_n hx hb dX2_startLayings_38 rfl (lv_at hl 1 rfl) ?_
        refine kv_calli (va_runV (As := [.int x2, .int p0]) (rest := [.int z2, .int z1, .ref (ad 8)]) ⟨hx, hb, hml, hown, hts⟩ (c_X2_weightOn l D ci ad kc kh ks fo kl kp dy mo n pa aE qp qm ql qv qc qe mt mv sw hv tk tn sc x2 p0 (kv_q1_n e hRz) H.size) (cwV 2 hts gX2_startLayings_X2_weightOn rfl rfl rfl (by decide +kernel) ⟨Nat.le_of_ble_eq_true rfl, Nat.le_of_ble_eq_true rfl⟩) (kv_preV hK hP hD (r := (RX2, TX2, 9)) (q0 := 0) (k := 3) rfl rfl rfl) rfl rfl hl.1 rfl (lv_room (Nat.le_of_ble_eq_true rfl)) dX2_startLayings_39 ⟨Nat.le_of_ble_eq_true rfl, Nat.le_of_ble_eq_true rfl⟩) hD hS hA (fun r_39 u_39 H locs hw_39 hP hD hS => ?_)
        have e := kv_q1_e e hw_39
        refine kv_callv (va_runV (As := [.int z1, .int z2, .int r_39]) (rest := []) ⟨hx, hb, hml, hown, hts⟩ (c_X0_weigh l D ci ad kc kh ks fo kl kp dy mo n pa aE qp qm ql qv qc qe mt mv sw hv tk tn sc z1 z2 r_39 (kv_q2_n e hRz) H.size) (cwV 3 hts gX2_startLayings_X0_weigh rfl rfl rfl (by decide +kernel) ⟨Nat.le_of_ble_eq_true rfl, Nat.le_of_ble_eq_true rfl⟩) (kv_preV hK hP hD (r := (RX0, TX0, 7)) (q0 := 8) (k := 1) rfl rfl rfl) rfl rfl hl.1 rfl (lv_room (Nat.le_of_ble_eq_true rfl)) dX2_startLayings_42 ⟨Nat.le_of_ble_eq_true rfl, Nat.le_of_ble_eq_true rfl⟩) hD hS hA (fun u_42 H locs hw_42 hP hD hS => ?_)
        obtain ⟨o0_42, o1_42⟩ := u_42
        have e := kv_q2_e e hw_42
        have hP : va_P D vwCl (kv_kw ci ad kc kh ks fo kl kp dy mo n pa aE qp qm ql qv qc qe mt mv o0_42 o1_42 tk tn sc) H := hP
        have hD : va_D A (kv_kw ci ad kc kh ks fo kl kp dy mo n pa aE qp qm ql qv qc qe mt mv o0_42 o1_42 tk tn sc) := hD
        refine lv_iinc (v := x2 + 1) (lv' := [(2, .int (x2 + 1)), (0, .ref (ad 0)), (1, .int p0)]) hx hb dX2_startLayings_45 hl (k := 2) rfl rfl (by decide) rfl (fun ls hl => ?_)
        refine lv_goto (tgt := 9) hx hb dX2_startLayings_48 (by decide) ?_
        exact ih_9 (x2 + 1) o0_42 o1_42 tk _ _ _  hP hD hS (lv_sub hl [1, 2, 0] rfl) e
      intro x2 sw hv tk H locs ls  hP hD hS hl e
      rw [pf_X2_startLayings_9, pf_X2_startLayings_9b] at e
      refine lv_iload_n hx hb dX2_startLayings_9 rfl (lv_at hl 2 rfl) ?_
      refine lv_bipush (v := 8) hx hb dX2_startLayings_10 (by decide) ?_
      refine lv_icmp_ge (tgt := 51) hx hb dX2_startLayings_12 (by decide) (fun c_12 => ?_) (fun c_12 => ?_)
      · have e := e.trans (if_pos c_12)
        rw [hQ]
        exact W.vret hx hb hr (fun t ht hW => ⟨⟨(sw, hv, tk), rfl, e, ⟨by rw [ht]; exact hP, by rw [hAe]; exact hD⟩⟩, hS.F ht⟩) hS.2.2 dX2_startLayings_51
      · have e := e.trans (if_neg c_12)
        refine lv_aload_n hx hb dX2_startLayings_15 rfl (lv_at hl 0 rfl) ?_
        refine va_get (D := D) (ci := 3) (v := .ref (ad 8)) (C := RX2) (T := TX2) (N := 9) hx hb hts hinRX2 hown hK hP 0 rfl rfl 7 (by decide) (hts (.fieldLink RX2 40 "LicenceKeeper" "layings" "LLicenceKeeper$Layings;") (by decide +kernel)) (fun _ h9 => h9) rfl dX2_startLayings_16 ?_
        refine lv_iload_n hx hb dX2_startLayings_19 rfl (lv_at hl 2 rfl) ?_
        refine lv_aload_n hx hb dX2_startLayings_20 rfl (lv_at hl 0 rfl) ?_
        refine va_get (D := D) (ci := 3) (v := .ref (ad 4)) (C := RX2) (T := TX2) (N := 9) hx hb hts hinRX2 hown hK hP 0 rfl rfl 3 (by decide) (hts (.fieldLink RX2 21 "LicenceKeeper" "found" "[[I") (by decide +kernel)) (fun _ h9 => h9) rfl dX2_startLayings_21 ?_
        refine lv_iload_n hx hb dX2_startLayings_24 rfl (lv_at hl 2 rfl) ?_
        obtain ⟨hi_25, e⟩ := kv_G_e e hRz
        refine kv_aldr hx hb hK hP 4 3 hi_25 (kv_out hi_25) dX2_startLayings_25 rfl rfl ?_
        refine lv_iload_n hx hb dX2_startLayings_26 rfl (lv_at hl 1 rfl) ?_
        obtain ⟨hi_27, e⟩ := kv_G_e e hRz
        refine kv_iald hx hb hK hP (15 + x2.toNatClampNeg) 0 hi_27 dX2_startLayings_27 (kv_row hi_25) rfl (fun y_27 ey_27 => ?_)
        have e := kv_T_e e ey_27
        refine lv_if_le (tgt := 35) hx hb dX2_startLayings_28 (by decide) (fun c_28 => ?_) (fun c_28 => ?_)
        · have e := e.trans (if_pos c_28)
          refine lv_iconst (v := 0) hx hb dX2_startLayings_35 (by decide) ?_
          exact hb_36 x2 x2 0 sw hv tk _ _ _  hP hD hS (lv_sub hl [0, 1, 2] rfl) e
        · have e := e.trans (if_neg c_28)
          refine lv_iconst (v := 1) hx hb dX2_startLayings_31 (by decide) ?_
          refine lv_goto (tgt := 36) hx hb dX2_startLayings_32 (by decide) ?_
          exact hb_36 x2 x2 1 sw hv tk _ _ _  hP hD hS (lv_sub hl [0, 1, 2] rfl) e
  refine lv_aload_n hx hb dX2_startLayings_0 rfl (lv_at hl 0 rfl) ?_
  refine va_get (D := D) (ci := 3) (v := .ref (ad 8)) (C := RX2) (T := TX2) (N := 9) hx hb hts hinRX2 hown hK hP 0 rfl rfl 7 (by decide) (hts (.fieldLink RX2 40 "LicenceKeeper" "layings" "LLicenceKeeper$Layings;") (by decide +kernel)) (fun _ h9 => h9) rfl dX2_startLayings_1 ?_
  refine kv_callv (va_runV (As := []) (rest := []) ⟨hx, hb, hml, hown, hts⟩ (c_X0_clearAll l D ci ad kc kh ks fo kl kp dy mo n pa aE qp qm ql qv qc qe mt mv sw hv tk tn sc  (kv_q2_n e hRz) s.heap.size) (cwV 0 hts gX2_startLayings_X0_clearAll rfl rfl rfl (by decide +kernel) ⟨Nat.le_of_ble_eq_true rfl, Nat.le_of_ble_eq_true rfl⟩) (kv_preV hK hP hD (r := (RX0, TX0, 7)) (q0 := 8) (k := 1) rfl rfl rfl) rfl rfl hl.1 rfl (lv_room (Nat.le_of_ble_eq_true rfl)) dX2_startLayings_4 ⟨Nat.le_of_ble_eq_true rfl, Nat.le_of_ble_eq_true rfl⟩) hD hS hA (fun u_4 H locs hw_4 hP hD hS => ?_)
  obtain ⟨o0_4, o1_4⟩ := u_4
  have e := kv_q2_e e hw_4
  have hP : va_P D vwCl (kv_kw ci ad kc kh ks fo kl kp dy mo n pa aE qp qm ql qv qc qe mt mv sw o0_4 o1_4 tn sc) H := hP
  have hD : va_D A (kv_kw ci ad kc kh ks fo kl kp dy mo n pa aE qp qm ql qv qc qe mt mv sw o0_4 o1_4 tn sc) := hD
  refine lv_iconst (v := 0) hx hb dX2_startLayings_7 (by decide) ?_
  refine lv_istore_n (lv' := [(2, .int 0), (0, .ref (ad 0)), (1, .int p0)]) hx hb dX2_startLayings_8 rfl hl (by decide) rfl (fun ls hl => ?_)
  exact hb_9 kv_F 0 sw o0_4 o1_4 _ _ _  hP hD hS (lv_sub hl [1, 2, 0] rfl) e

def pf_X2_layAllBut_8b (kc : Nat → Int32) (fo : Nat → Nat → Int32) (kp : Nat → Int32) (n : Nat) (qp : Nat → Int32) (qm : Nat → Int32) (qv : Nat → Int32) (qc : Nat → Int32) (p0 : Int32) (p1 : Int32) (p2 : Nat → Int32)  (k_8 : Int32 → (Nat → Int32) → (Nat → Int32) → (Nat → Int32) → Int32 → (Nat → Int32) → Option ((Nat → Int32) × (Nat → Int32) × (Nat → Int32) × Int32 × (Nat → Int32))) (x4 : Int32) (mt : Nat → Int32) (mv : Nat → Int32) (sw : Nat → Int32) (hv : Int32) (tk : Nat → Int32) : Option ((Nat → Int32) × (Nat → Int32) × (Nat → Int32) × Int32 × (Nat → Int32)) :=
  if (nI n) ≤ x4 then some (mt, mv, sw, hv, tk) else kv_L x4 n (kv_T x4.toNatClampNeg (fun k_26 => if x4 = p0 then k_8 (x4 + 1) mt mv sw hv tk else if (qp k_26) = p1 then if (qc k_26) ≤ 0 then k_8 (x4 + 1) mt mv sw hv tk else kv_q2 (pf_X2_takeUp kc fo n qp qm qv k_26 p2 mt mv) (fun o0_61 o1_61 => kv_q1 (pf_X0_layOpen o0_61 o1_61 tk) (fun u_68 => kv_q1 (pf_X0_closeWithin (qc k_26) u_68) (fun u_80 => k_8 (x4 + 1) o0_61 o1_61 sw hv u_80))) else k_8 (x4 + 1) mt mv sw hv tk))
def pf_X2_layAllBut_8 (kc : Nat → Int32) (fo : Nat → Nat → Int32) (kp : Nat → Int32) (n : Nat) (qp : Nat → Int32) (qm : Nat → Int32) (qv : Nat → Int32) (qc : Nat → Int32) (p0 : Int32) (p1 : Int32) (p2 : Nat → Int32)  : Nat → Int32 → (Nat → Int32) → (Nat → Int32) → (Nat → Int32) → Int32 → (Nat → Int32) → Option ((Nat → Int32) × (Nat → Int32) × (Nat → Int32) × Int32 × (Nat → Int32))
  | 0, _, _, _, _, _, _ => none
  | nn + 1, x4, mt, mv, sw, hv, tk => pf_X2_layAllBut_8b kc fo kp n qp qm qv qc p0 p1 p2  (pf_X2_layAllBut_8 kc fo kp n qp qm qv qc p0 p1 p2  nn) x4 mt mv sw hv tk
def pf_X2_layAllBut (kc : Nat → Int32) (fo : Nat → Nat → Int32) (kp : Nat → Int32) (n : Nat) (qp : Nat → Int32) (qm : Nat → Int32) (qv : Nat → Int32) (qc : Nat → Int32) (p0 : Int32) (p1 : Int32) (p2 : Nat → Int32) (mt : Nat → Int32) (mv : Nat → Int32) (sw : Nat → Int32) (hv : Int32) (tk : Nat → Int32) : Option ((Nat → Int32) × (Nat → Int32) × (Nat → Int32) × Int32 × (Nat → Int32)) :=
  kv_q3 (pf_X2_startLayings kc fo kp p1 sw hv tk) (fun o0_2 o1_2 o2_2 => pf_X2_layAllBut_8 kc fo kp n qp qm qv qc p0 p1 p2 kv_F 0 mt mv o0_2 o1_2 o2_2)
abbrev rmX2_layAllBut : Room := { frames := 3, cells := 0, slots := 0, locals := 65 }
set_option maxHeartbeats 4000000 in
set_option maxRecDepth 100000 in
theorem c_X2_layAllBut (l : Launch) (D : va_G) (ci ad : Nat → Nat) (kc : Nat → Int32) (kh : Nat → Int32) (ks : Nat → Int32) (fo : Nat → Nat → Int32) (kl : Nat → Int32) (kp : Nat → Int32) (dy : Int32) (mo : Int32) (n : Nat) (pa : Nat → Nat) (aE : Nat) (qp : Nat → Int32) (qm : Nat → Int32) (ql : Nat → Int32) (qv : Nat → Int32) (qc : Nat → Int32) (qe : Nat → Int32) (mt : Nat → Int32) (mv : Nat → Int32) (sw : Nat → Int32) (hv : Int32) (tk : Nat → Int32) (tn : Nat → Int32) (sc : Nat → Int32) (p0 : Int32) (p1 : Int32) (p2 : Nat → Int32) (ap2 qp2 : Nat) (hap2 : ∀ mt mv sw hv tk tn sc, (kv_kw ci ad kc kh ks fo kl kp dy mo n pa aE qp qm ql qv qc qe mt mv sw hv tk tn sc)[qp2]? = some (ap2, .inl (ci 0, 8, .inl p2))) (hRn : pf_X2_layAllBut kc fo kp n qp qm qv qc p0 p1 p2 mt mv sw hv tk ≠ none) (sz : Nat) : Met l yX2_layAllBut wsX2_layAllBut rmX2_layAllBut (va_Pc [.ref (ad 0), .int p0, .int p1, .ref ap2] (kv_pre D ci (kv_kw ci ad kc kh ks fo kl kp dy mo n pa aE qp qm ql qv qc qe mt mv sw hv tk tn sc) sz)) (va_Qv (fun (u : (Nat → Int32) × (Nat → Int32) × (Nat → Int32) × Int32 × (Nat → Int32)) => pf_X2_layAllBut kc fo kp n qp qm qv qc p0 p1 p2 mt mv sw hv tk = some (u)) (fun u t => kv_post D (kv_kw ci ad kc kh ks fo kl kp dy mo n pa aE qp qm ql qv qc qe mt mv sw hv tk tn sc) sz (kv_kw ci ad kc kh ks fo kl kp dy mo n pa aE qp qm ql qv qc qe u.1 u.2.1 u.2.2.1 u.2.2.2.1 u.2.2.2.2 tn sc) t) (va_A (kv_kw ci ad kc kh ks fo kl kp dy mo n pa aE qp qm ql qv qc qe mt mv sw hv tk tn sc) sz)) 0 0 (va_A (kv_kw ci ad kc kh ks fo kl kp dy mo n pa aE qp qm ql qv qc qe mt mv sw hv tk tn sc) sz) := by
  refine Met.ofW (cc := cX2_layAllBut) (maxL := 6) (ret := none) (by decide) rfl ?_
  intro p en s m args below meth c s₁ B hml hv
  obtain ⟨hv0, hsz, hP, hK, hD0⟩ := hv
  have hx := B.exec
  have hb := B.bytes
  have hr := B.returns
  have hts := atoms_spec (ws := wsX2_layAllBut) B.pre
  have hown : s.vm.findClass RX2 = some m.cls := findClass_of_methodNamed B.named
  have hlocks := B.notSynchronized
  subst hsz
  have hD := hD0.self (sz := s.heap.size)
  generalize hAe : va_A (kv_kw ci ad kc kh ks fo kl kp dy mo n pa aE qp qm ql qv qc qe mt mv sw hv tk tn sc) s.heap.size = A at hD ⊢
  have hA : ∀ q : Nat, s.heap.size ≤ q → A q := fun q h => by rw [← hAe]; exact Or.inr h
  have hS : va_S A s.heap s.heap [] := va_S.rf
  have hP : va_P D vwCl (kv_kw ci ad kc kh ks fo kl kp dy mo n pa aE qp qm ql qv qc qe mt mv sw hv tk tn sc) s.heap := hP
  have hinRX2 : ∀ w ∈ u_ws RX2 TX2 9, w ∈ wsX2_layAllBut := by decide +kernel
  have hinRX1 : ∀ w ∈ u_ws RX1 TX1 6, w ∈ wsX2_layAllBut := by decide +kernel
  generalize hRd : pf_X2_layAllBut kc fo kp n qp qm qv qc p0 p1 p2 mt mv sw hv tk = Rz at hRn
  have hRz := hRn
  refine kv_Q (fun Q hQ => ?_)
  refine W.eq (show entryFrame m args 6 = _ from by rw [hv0, lg_entry_eq]) ?_
  have hl := lv_entry ([.ref (ad 0), .int p0, .int p1, .ref ap2]) (n := 6) (Nat.le_of_ble_eq_true rfl)
  generalize (lg_sl ([.ref (ad 0), .int p0, .int p1, .ref ap2]) ++ List.replicate (6 - (lg_sl ([.ref (ad 0), .int p0, .int p1, .ref ap2])).length) Slot.unset).toArray = ls at hl ⊢
  have hl : lv_has ls 6 [(0, .ref (ad 0)), (1, .int p0), (2, .int p1), (3, .ref ap2)] := hl
  have e : Rz = pf_X2_layAllBut kc fo kp n qp qm qv qc p0 p1 p2 mt mv sw hv tk := hRd.symm
  rw [pf_X2_layAllBut] at e
  have hb_8 : ∀ (n_8 : Nat), ∀ (x4 : Int32) (mt : Nat → Int32) (mv : Nat → Int32) (sw : Nat → Int32) (hv : Int32) (tk : Nat → Int32) (H : Heap) (locs : List Loc) (ls : Array Slot), va_P D vwCl (kv_kw ci ad kc kh ks fo kl kp dy mo n pa aE qp qm ql qv qc qe mt mv sw hv tk tn sc) H → va_D A (kv_kw ci ad kc kh ks fo kl kp dy mo n pa aE qp qm ql qv qc qe mt mv sw hv tk tn sc) → va_S A s.heap H locs → lv_has ls 6 [(0, .ref (ad 0)), (1, .int p0), (2, .int p1), (3, .ref ap2), (4, .int x4)] → Rz = pf_X2_layAllBut_8 kc fo kp n qp qm qv qc p0 p1 p2  n_8 x4 mt mv sw hv tk → W p l en rmX2_layAllBut s m args below meth c H locs 0 0 Q (F0 m 8 ls []) := by
    intro n_8
    induction n_8 with
    | zero =>
      intro x4 mt mv sw hv tk H locs ls  _ _ _ _ e
      exact absurd e hRz
    | succ n_8 ih_8 =>
      intro x4 mt mv sw hv tk H locs ls  hP hD hS hl e
      rw [pf_X2_layAllBut_8, pf_X2_layAllBut_8b] at e
      refine lv_iload hx hb dX2_layAllBut_8 (lv_at hl 4 rfl) ?_
      refine lv_aload_n hx hb dX2_layAllBut_10 rfl (lv_at hl 0 rfl) ?_
      refine va_get (D := D) (ci := 3) (v := .ref (ad 7)) (C := RX2) (T := TX2) (N := 9) hx hb hts hinRX2 hown hK hP 0 rfl rfl 6 (by decide) (hts (.fieldLink RX2 33 "LicenceKeeper" "held" "Ljava/util/ArrayList;") (by decide +kernel)) (fun _ h9 => h9) rfl dX2_layAllBut_11 ?_
      refine kv_calli (va_runV (As := []) (rest := [.int x4]) ⟨hx, hb, hml, hown, hts⟩ (c_K_size l D ci ad kc kh ks fo kl kp dy mo n pa aE qp qm ql qv qc qe mt mv sw hv tk tn sc H.size) (cwV 0 hts gX2_layAllBut_Jx4a65c_size_8abf5 rfl rfl rfl (by decide +kernel) ⟨Nat.le_of_ble_eq_true rfl, Nat.le_of_ble_eq_true rfl⟩) (kv_preV hK hP hD (r := (RJx4a65c, TJx4a65c, 3)) (q0 := 7) (k := 0) rfl rfl rfl) rfl rfl hl.1 rfl (lv_room (Nat.le_of_ble_eq_true rfl)) dX2_layAllBut_14 ⟨Nat.le_of_ble_eq_true rfl, Nat.le_of_ble_eq_true rfl⟩) hD hS hA (fun r_14 u_14 H locs hw_14 hP hD hS => ?_)
      subst hw_14
      refine lv_icmp_ge (tgt := 89) hx hb dX2_layAllBut_17 (by decide) (fun c_17 => ?_) (fun c_17 => ?_)
      · have e := e.trans (if_pos c_17)
        rw [hQ]
        exact W.vret hx hb hr (fun t ht hW => ⟨⟨(mt, mv, sw, hv, tk), rfl, e, ⟨by rw [ht]; exact hP, by rw [hAe]; exact hD⟩⟩, hS.F ht⟩) hS.2.2 dX2_layAllBut_89
      · have e := e.trans (if_neg c_17)
        refine lv_aload_n hx hb dX2_layAllBut_20 rfl (lv_at hl 0 rfl) ?_
        refine va_get (D := D) (ci := 3) (v := .ref (ad 7)) (C := RX2) (T := TX2) (N := 9) hx hb hts hinRX2 hown hK hP 0 rfl rfl 6 (by decide) (hts (.fieldLink RX2 33 "LicenceKeeper" "held" "Ljava/util/ArrayList;") (by decide +kernel)) (fun _ h9 => h9) rfl dX2_layAllBut_21 ?_
        refine lv_iload hx hb dX2_layAllBut_24 (lv_at hl 4 rfl) ?_
        obtain ⟨hi_26, hn_26, e⟩ := kv_L_e e hRz
        refine kv_callq (pa := pa) (n := n) (va_runV (As := [.int x4]) (rest := []) ⟨hx, hb, hml, hown, hts⟩ (c_K_get l D ci ad kc kh ks fo kl kp dy mo n pa aE qp qm ql qv qc qe mt mv sw hv tk tn sc x4 hi_26 hn_26 H.size) (cwV 1 hts gX2_layAllBut_Jx4a65c_get_915e3 rfl rfl rfl (by decide +kernel) ⟨Nat.le_of_ble_eq_true rfl, Nat.le_of_ble_eq_true rfl⟩) (kv_preV hK hP hD (r := (RJx4a65c, TJx4a65c, 3)) (q0 := 7) (k := 0) rfl rfl rfl) rfl rfl hl.1 rfl (lv_room (Nat.le_of_ble_eq_true rfl)) dX2_layAllBut_26 ⟨Nat.le_of_ble_eq_true rfl, Nat.le_of_ble_eq_true rfl⟩) hD hS hA (fun k_26 H locs hk_26 ek_26 hP hD hS => ?_)
        have e := kv_T_e e ek_26
        refine va_castS hx hb hown (hts (.classLink RX2 84 "LicenceKeeper$Right") (by decide +kernel)) (hK.1 2 _ rfl).2 (va_recv hK hP (ci := 2) (q0 := 24 + k_26) rfl (kv_rt hk_26)) dX2_layAllBut_29 ?_
        refine lv_astore (lv' := [(5, .ref (pa k_26)), (0, .ref (ad 0)), (1, .int p0), (2, .int p1), (3, .ref ap2), (4, .int x4)]) hx hb dX2_layAllBut_32 hl (by decide) rfl (fun ls hl => ?_)
        refine lv_iload hx hb dX2_layAllBut_34 (lv_at hl 5 rfl) ?_
        refine lv_iload_n hx hb dX2_layAllBut_36 rfl (lv_at hl 2 rfl) ?_
        refine lv_icmp_eq (tgt := 83) hx hb dX2_layAllBut_37 (by decide) (fun c_37 => ?_) (fun c_37 => ?_)
        · have e := e.trans (if_pos c_37)
          refine lv_iinc (v := x4 + 1) (lv' := [(4, .int (x4 + 1)), (5, .ref (pa k_26)), (0, .ref (ad 0)), (1, .int p0), (2, .int p1), (3, .ref ap2)]) hx hb dX2_layAllBut_83 hl (k := 5) rfl rfl (by decide) rfl (fun ls hl => ?_)
          refine lv_goto (tgt := 8) hx hb dX2_layAllBut_86 (by decide) ?_
          exact ih_8 (x4 + 1) mt mv sw hv tk _ _ _  hP hD hS (lv_sub hl [2, 3, 4, 5, 0] rfl) e
        · have e := e.trans (if_neg c_37)
          refine lv_aload hx hb dX2_layAllBut_40 (lv_at hl 0 rfl) ?_
          refine va_get (D := D) (ci := 2) (v := .int (qp k_26)) (C := RX1) (T := TX1) (N := 6) hx hb hts hinRX1 hown hK hP (24 + k_26) (kv_rt hk_26) rfl 0 (by decide) (hts (.fieldLink RX2 86 "LicenceKeeper$Right" "product" "I") (by decide +kernel)) (fun _ h9 => h9) rfl dX2_layAllBut_42 ?_
          refine lv_iload_n hx hb dX2_layAllBut_45 rfl (lv_at hl 3 rfl) ?_
          refine lv_icmp_ne (tgt := 83) hx hb dX2_layAllBut_46 (by decide) (fun c_46 => ?_) (fun c_46 => ?_)
          · have e := e.trans (if_neg c_46)
            refine lv_iinc (v := x4 + 1) (lv' := [(4, .int (x4 + 1)), (5, .ref (pa k_26)), (0, .ref (ad 0)), (1, .int p0), (2, .int p1), (3, .ref ap2)]) hx hb dX2_layAllBut_83 hl (k := 5) rfl rfl (by decide) rfl (fun ls hl => ?_)
            refine lv_goto (tgt := 8) hx hb dX2_layAllBut_86 (by decide) ?_
            exact ih_8 (x4 + 1) mt mv sw hv tk _ _ _  hP hD hS (lv_sub hl [2, 3, 4, 5, 0] rfl) e
          · have e := e.trans (if_pos c_46)
            refine lv_aload hx hb dX2_layAllBut_49 (lv_at hl 0 rfl) ?_
            refine va_get (D := D) (ci := 2) (v := .int (qc k_26)) (C := RX1) (T := TX1) (N := 6) hx hb hts hinRX1 hown hK hP (24 + k_26) (kv_rt hk_26) rfl 4 (by decide) (hts (.fieldLink RX2 112 "LicenceKeeper$Right" "count" "I") (by decide +kernel)) (fun _ h9 => h9) rfl dX2_layAllBut_51 ?_
            refine lv_if_le (tgt := 83) hx hb dX2_layAllBut_54 (by decide) (fun c_54 => ?_) (fun c_54 => ?_)
            · have e := e.trans (if_pos c_54)
              refine lv_iinc (v := x4 + 1) (lv' := [(4, .int (x4 + 1)), (5, .ref (pa k_26)), (0, .ref (ad 0)), (1, .int p0), (2, .int p1), (3, .ref ap2)]) hx hb dX2_layAllBut_83 hl (k := 5) rfl rfl (by decide) rfl (fun ls hl => ?_)
              refine lv_goto (tgt := 8) hx hb dX2_layAllBut_86 (by decide) ?_
              exact ih_8 (x4 + 1) mt mv sw hv tk _ _ _  hP hD hS (lv_sub hl [2, 3, 4, 5, 0] rfl) e
            · have e := e.trans (if_neg c_54)
              refine lv_aload_n hx hb dX2_layAllBut_57 rfl (lv_at hl 1 rfl) ?_
              refine lv_aload hx hb dX2_layAllBut_58 (lv_at hl 0 rfl) ?_
              refine lv_aload_n hx hb dX2_layAllBut_60 rfl (lv_at hl 4 rfl) ?_
              refine kv_callv (va_runV (As := [.ref (pa k_26), .ref ap2]) (rest := []) ⟨hx, hb, hml, hown, hts⟩ (c_X2_takeUp l D ci ad kc kh ks fo kl kp dy mo n pa aE qp qm ql qv qc qe mt mv sw hv tk tn sc k_26 p2 hk_26 ap2 qp2 hap2 (kv_q2_n e hRz) H.size) (cwV 2 hts gX2_layAllBut_X2_takeUp rfl rfl rfl (by decide +kernel) ⟨Nat.le_of_ble_eq_true rfl, Nat.le_of_ble_eq_true rfl⟩) (kv_preV hK hP hD (r := (RX2, TX2, 9)) (q0 := 0) (k := 3) rfl rfl rfl) rfl rfl hl.1 rfl (lv_room (Nat.le_of_ble_eq_true rfl)) dX2_layAllBut_61 ⟨Nat.le_of_ble_eq_true rfl, Nat.le_of_ble_eq_true rfl⟩) hD hS hA (fun u_61 H locs hw_61 hP hD hS => ?_)
              obtain ⟨o0_61, o1_61⟩ := u_61
              have e := kv_q2_e e hw_61
              have hP : va_P D vwCl (kv_kw ci ad kc kh ks fo kl kp dy mo n pa aE qp qm ql qv qc qe o0_61 o1_61 sw hv tk tn sc) H := hP
              have hD : va_D A (kv_kw ci ad kc kh ks fo kl kp dy mo n pa aE qp qm ql qv qc qe o0_61 o1_61 sw hv tk tn sc) := hD
              refine lv_aload_n hx hb dX2_layAllBut_64 rfl (lv_at hl 1 rfl) ?_
              refine va_get (D := D) (ci := 3) (v := .ref (ad 8)) (C := RX2) (T := TX2) (N := 9) hx hb hts hinRX2 hown hK hP 0 rfl rfl 7 (by decide) (hts (.fieldLink RX2 40 "LicenceKeeper" "layings" "LLicenceKeeper$Layings;") (by decide +kernel)) (fun _ h9 => h9) rfl dX2_layAllBut_65 ?_
              refine kv_callv (va_runV (As := []) (rest := []) ⟨hx, hb, hml, hown, hts⟩ (c_X0_layOpen l D ci ad kc kh ks fo kl kp dy mo n pa aE qp qm ql qv qc qe o0_61 o1_61 sw hv tk tn sc  (kv_q1_n e hRz) H.size) (cwV 0 hts gX2_layAllBut_X0_layOpen rfl rfl rfl (by decide +kernel) ⟨Nat.le_of_ble_eq_true rfl, Nat.le_of_ble_eq_true rfl⟩) (kv_preV hK hP hD (r := (RX0, TX0, 7)) (q0 := 8) (k := 1) rfl rfl rfl) rfl rfl hl.1 rfl (lv_room (Nat.le_of_ble_eq_true rfl)) dX2_layAllBut_68 ⟨Nat.le_of_ble_eq_true rfl, Nat.le_of_ble_eq_true rfl⟩) hD hS hA (fun u_68 H locs hw_68 hP hD hS => ?_)
              have e := kv_q1_e e hw_68
              have hP : va_P D vwCl (kv_kw ci ad kc kh ks fo kl kp dy mo n pa aE qp qm ql qv qc qe o0_61 o1_61 sw hv u_68 tn sc) H := hP
              have hD : va_D A (kv_kw ci ad kc kh ks fo kl kp dy mo n pa aE qp qm ql qv qc qe o0_61 o1_61 sw hv u_68 tn sc) := hD
              refine lv_aload_n hx hb dX2_layAllBut_71 rfl (lv_at hl 1 rfl) ?_
              refine va_get (D := D) (ci := 3) (v := .ref (ad 8)) (C := RX2) (T := TX2) (N := 9) hx hb hts hinRX2 hown hK hP 0 rfl rfl 7 (by decide) (hts (.fieldLink RX2 40 "LicenceKeeper" "layings" "LLicenceKeeper$Layings;") (by decide +kernel)) (fun _ h9 => h9) rfl dX2_layAllBut_72 ?_
              refine lv_aload hx hb dX2_layAllBut_75 (lv_at hl 0 rfl) ?_
              refine va_get (D := D) (ci := 2) (v := .int (qc k_26)) (C := RX1) (T := TX1) (N := 6) hx hb hts hinRX1 hown hK hP (24 + k_26) (kv_rt hk_26) rfl 4 (by decide) (hts (.fieldLink RX2 112 "LicenceKeeper$Right" "count" "I") (by decide +kernel)) (fun _ h9 => h9) rfl dX2_layAllBut_77 ?_
              refine kv_callv (va_runV (As := [.int (qc k_26)]) (rest := []) ⟨hx, hb, hml, hown, hts⟩ (c_X0_closeWithin l D ci ad kc kh ks fo kl kp dy mo n pa aE qp qm ql qv qc qe o0_61 o1_61 sw hv u_68 tn sc (qc k_26) (kv_q1_n e hRz) H.size) (cwV 1 hts gX2_layAllBut_X0_closeWithin rfl rfl rfl (by decide +kernel) ⟨Nat.le_of_ble_eq_true rfl, Nat.le_of_ble_eq_true rfl⟩) (kv_preV hK hP hD (r := (RX0, TX0, 7)) (q0 := 8) (k := 1) rfl rfl rfl) rfl rfl hl.1 rfl (lv_room (Nat.le_of_ble_eq_true rfl)) dX2_layAllBut_80 ⟨Nat.le_of_ble_eq_true rfl, Nat.le_of_ble_eq_true rfl⟩) hD hS hA (fun u_80 H locs hw_80 hP hD hS => ?_)
              have e := kv_q1_e e hw_80
              have hP : va_P D vwCl (kv_kw ci ad kc kh ks fo kl kp dy mo n pa aE qp qm ql qv qc qe o0_61 o1_61 sw hv u_80 tn sc) H := hP
              have hD : va_D A (kv_kw ci ad kc kh ks fo kl kp dy mo n pa aE qp qm ql qv qc qe o0_61 o1_61 sw hv u_80 tn sc) := hD
              refine lv_iinc (v := x4 + 1) (lv' := [(4, .int (x4 + 1)), (5, .ref (pa k_26)), (0, .ref (ad 0)), (1, .int p0), (2, .int p1), (3, .ref ap2)]) hx hb dX2_layAllBut_83 hl (k := 5) rfl rfl (by decide) rfl (fun ls hl => ?_)
              refine lv_goto (tgt := 8) hx hb dX2_layAllBut_86 (by decide) ?_
              exact ih_8 (x4 + 1) o0_61 o1_61 sw hv u_80 _ _ _  hP hD hS (lv_sub hl [2, 3, 4, 5, 0] rfl) e
  refine lv_aload_n hx hb dX2_layAllBut_0 rfl (lv_at hl 0 rfl) ?_
  refine lv_iload_n hx hb dX2_layAllBut_1 rfl (lv_at hl 2 rfl) ?_
  refine kv_callv (va_runV (As := [.int p1]) (rest := []) ⟨hx, hb, hml, hown, hts⟩ (c_X2_startLayings l D ci ad kc kh ks fo kl kp dy mo n pa aE qp qm ql qv qc qe mt mv sw hv tk tn sc p1 (kv_q3_n e hRz) s.heap.size) (cwV 1 hts gX2_layAllBut_X2_startLayings rfl rfl rfl (by decide +kernel) ⟨Nat.le_of_ble_eq_true rfl, Nat.le_of_ble_eq_true rfl⟩) (kv_preV hK hP hD (r := (RX2, TX2, 9)) (q0 := 0) (k := 3) rfl rfl rfl) rfl rfl hl.1 rfl (lv_room (Nat.le_of_ble_eq_true rfl)) dX2_layAllBut_2 ⟨Nat.le_of_ble_eq_true rfl, Nat.le_of_ble_eq_true rfl⟩) hD hS hA (fun u_2 H locs hw_2 hP hD hS => ?_)
  obtain ⟨o0_2, o1_2, o2_2⟩ := u_2
  have e := kv_q3_e e hw_2
  have hP : va_P D vwCl (kv_kw ci ad kc kh ks fo kl kp dy mo n pa aE qp qm ql qv qc qe mt mv o0_2 o1_2 o2_2 tn sc) H := hP
  have hD : va_D A (kv_kw ci ad kc kh ks fo kl kp dy mo n pa aE qp qm ql qv qc qe mt mv o0_2 o1_2 o2_2 tn sc) := hD
  refine lv_iconst (v := 0) hx hb dX2_layAllBut_5 (by decide) ?_
  refine lv_istore (lv' := [(4, .int 0), (0, .ref (ad 0)), (1, .int p0), (2, .int p1), (3, .ref ap2)]) hx hb dX2_layAllBut_6 hl (by decide) rfl (fun ls hl => ?_)
  exact hb_8 kv_F 0 mt mv o0_2 o1_2 o2_2 _ _ _  hP hD hS (lv_sub hl [1, 2, 3, 4, 0] rfl) e

def pf_X2_leastUncovered (kc : Nat → Int32) (fo : Nat → Nat → Int32) (kp : Nat → Int32) (n : Nat) (qp : Nat → Int32) (qm : Nat → Int32) (qv : Nat → Int32) (qc : Nat → Int32) (p0 : Int32) (p1 : Nat → Int32) (mt : Nat → Int32) (mv : Nat → Int32) (sw : Nat → Int32) (hv : Int32) (tk : Nat → Int32) : Option (Int32 × (Nat → Int32) × (Nat → Int32) × (Nat → Int32) × Int32 × (Nat → Int32)) :=
  kv_q5 (pf_X2_layAllBut kc fo kp n qp qm qv qc (-1) p0 p1 mt mv sw hv tk) (fun o0_4 o1_4 o2_4 o3_4 o4_4 => kv_q1 (pf_X0_leastUncoveredWithin o2_4 o3_4 o4_4 0) (fun r_12 => some (r_12, o0_4, o1_4, o2_4, o3_4, o4_4)))
abbrev rmX2_leastUncovered : Room := { frames := 4, cells := 0, slots := 0, locals := 90 }
set_option maxHeartbeats 4000000 in
set_option maxRecDepth 100000 in
theorem c_X2_leastUncovered (l : Launch) (D : va_G) (ci ad : Nat → Nat) (kc : Nat → Int32) (kh : Nat → Int32) (ks : Nat → Int32) (fo : Nat → Nat → Int32) (kl : Nat → Int32) (kp : Nat → Int32) (dy : Int32) (mo : Int32) (n : Nat) (pa : Nat → Nat) (aE : Nat) (qp : Nat → Int32) (qm : Nat → Int32) (ql : Nat → Int32) (qv : Nat → Int32) (qc : Nat → Int32) (qe : Nat → Int32) (mt : Nat → Int32) (mv : Nat → Int32) (sw : Nat → Int32) (hv : Int32) (tk : Nat → Int32) (tn : Nat → Int32) (sc : Nat → Int32) (p0 : Int32) (p1 : Nat → Int32) (ap1 qp1 : Nat) (hap1 : ∀ mt mv sw hv tk tn sc, (kv_kw ci ad kc kh ks fo kl kp dy mo n pa aE qp qm ql qv qc qe mt mv sw hv tk tn sc)[qp1]? = some (ap1, .inl (ci 0, 8, .inl p1))) (hRn : pf_X2_leastUncovered kc fo kp n qp qm qv qc p0 p1 mt mv sw hv tk ≠ none) (sz : Nat) : Met l yX2_leastUncovered wsX2_leastUncovered rmX2_leastUncovered (va_Pc [.ref (ad 0), .int p0, .ref ap1] (kv_pre D ci (kv_kw ci ad kc kh ks fo kl kp dy mo n pa aE qp qm ql qv qc qe mt mv sw hv tk tn sc) sz)) (va_Qi (fun (r : Int32) (u : (Nat → Int32) × (Nat → Int32) × (Nat → Int32) × Int32 × (Nat → Int32)) => pf_X2_leastUncovered kc fo kp n qp qm qv qc p0 p1 mt mv sw hv tk = some (r, u)) (fun u t => kv_post D (kv_kw ci ad kc kh ks fo kl kp dy mo n pa aE qp qm ql qv qc qe mt mv sw hv tk tn sc) sz (kv_kw ci ad kc kh ks fo kl kp dy mo n pa aE qp qm ql qv qc qe u.1 u.2.1 u.2.2.1 u.2.2.2.1 u.2.2.2.2 tn sc) t) (va_A (kv_kw ci ad kc kh ks fo kl kp dy mo n pa aE qp qm ql qv qc qe mt mv sw hv tk tn sc) sz)) 0 0 (va_A (kv_kw ci ad kc kh ks fo kl kp dy mo n pa aE qp qm ql qv qc qe mt mv sw hv tk tn sc) sz) := by
  refine Met.ofW (cc := cX2_leastUncovered) (maxL := 3) (ret := (some .int)) (by decide) rfl ?_
  intro p en s m args below meth c s₁ B hml hv
  obtain ⟨hv0, hsz, hP, hK, hD0⟩ := hv
  have hx := B.exec
  have hb := B.bytes
  have hr := B.returns
  have hts := atoms_spec (ws := wsX2_leastUncovered) B.pre
  have hown : s.vm.findClass RX2 = some m.cls := findClass_of_methodNamed B.named
  have hlocks := B.notSynchronized
  subst hsz
  have hD := hD0.self (sz := s.heap.size)
  generalize hAe : va_A (kv_kw ci ad kc kh ks fo kl kp dy mo n pa aE qp qm ql qv qc qe mt mv sw hv tk tn sc) s.heap.size = A at hD ⊢
  have hA : ∀ q : Nat, s.heap.size ≤ q → A q := fun q h => by rw [← hAe]; exact Or.inr h
  have hS : va_S A s.heap s.heap [] := va_S.rf
  have hP : va_P D vwCl (kv_kw ci ad kc kh ks fo kl kp dy mo n pa aE qp qm ql qv qc qe mt mv sw hv tk tn sc) s.heap := hP
  have hinRX2 : ∀ w ∈ u_ws RX2 TX2 9, w ∈ wsX2_leastUncovered := by decide +kernel
  generalize hRd : pf_X2_leastUncovered kc fo kp n qp qm qv qc p0 p1 mt mv sw hv tk = Rz at hRn
  have hRz := hRn
  refine kv_Q (fun Q hQ => ?_)
  refine W.eq (show entryFrame m args 3 = _ from by rw [hv0, lg_entry_eq]) ?_
  have hl := lv_entry ([.ref (ad 0), .int p0, .ref ap1]) (n := 3) (Nat.le_of_ble_eq_true rfl)
  generalize (lg_sl ([.ref (ad 0), .int p0, .ref ap1]) ++ List.replicate (3 - (lg_sl ([.ref (ad 0), .int p0, .ref ap1])).length) Slot.unset).toArray = ls at hl ⊢
  have hl : lv_has ls 3 [(0, .ref (ad 0)), (1, .int p0), (2, .ref ap1)] := hl
  have e : Rz = pf_X2_leastUncovered kc fo kp n qp qm qv qc p0 p1 mt mv sw hv tk := hRd.symm
  rw [pf_X2_leastUncovered] at e
  refine lv_aload_n hx hb dX2_leastUncovered_0 rfl (lv_at hl 0 rfl) ?_
  refine lv_iconst (v := (-1)) hx hb dX2_leastUncovered_1 (by decide) ?_
  refine lv_iload_n hx hb dX2_leastUncovered_2 rfl (lv_at hl 1 rfl) ?_
  refine lv_aload_n hx hb dX2_leastUncovered_3 rfl (lv_at hl 2 rfl) ?_
  refine kv_callv (va_runV (As := [.int (-1), .int p0, .ref ap1]) (rest := []) ⟨hx, hb, hml, hown, hts⟩ (c_X2_layAllBut l D ci ad kc kh ks fo kl kp dy mo n pa aE qp qm ql qv qc qe mt mv sw hv tk tn sc (-1) p0 p1 ap1 qp1 hap1 (kv_q5_n e hRz) s.heap.size) (cwV 3 hts gX2_leastUncovered_X2_layAllBut rfl rfl rfl (by decide +kernel) ⟨Nat.le_of_ble_eq_true rfl, Nat.le_of_ble_eq_true rfl⟩) (kv_preV hK hP hD (r := (RX2, TX2, 9)) (q0 := 0) (k := 3) rfl rfl rfl) rfl rfl hl.1 rfl (lv_room (Nat.le_of_ble_eq_true rfl)) dX2_leastUncovered_4 ⟨Nat.le_of_ble_eq_true rfl, Nat.le_of_ble_eq_true rfl⟩) hD hS hA (fun u_4 H locs hw_4 hP hD hS => ?_)
  obtain ⟨o0_4, o1_4, o2_4, o3_4, o4_4⟩ := u_4
  have e := kv_q5_e e hw_4
  have hP : va_P D vwCl (kv_kw ci ad kc kh ks fo kl kp dy mo n pa aE qp qm ql qv qc qe o0_4 o1_4 o2_4 o3_4 o4_4 tn sc) H := hP
  have hD : va_D A (kv_kw ci ad kc kh ks fo kl kp dy mo n pa aE qp qm ql qv qc qe o0_4 o1_4 o2_4 o3_4 o4_4 tn sc) := hD
  refine lv_aload_n hx hb dX2_leastUncovered_7 rfl (lv_at hl 0 rfl) ?_
  refine va_get (D := D) (ci := 3) (v := .ref (ad 8)) (C := RX2) (T := TX2) (N := 9) hx hb hts hinRX2 hown hK hP 0 rfl rfl 7 (by decide) (hts (.fieldLink RX2 40 "LicenceKeeper" "layings" "LLicenceKeeper$Layings;") (by decide +kernel)) (fun _ h9 => h9) rfl dX2_leastUncovered_8 ?_
  refine lv_iconst (v := 0) hx hb dX2_leastUncovered_11 (by decide) ?_
  refine kv_calli (va_runV (As := [.int 0]) (rest := []) ⟨hx, hb, hml, hown, hts⟩ (c_X0_leastUncoveredWithin l D ci ad kc kh ks fo kl kp dy mo n pa aE qp qm ql qv qc qe o0_4 o1_4 o2_4 o3_4 o4_4 tn sc 0 (kv_q1_n e hRz) H.size) (cwV 1 hts gX2_leastUncovered_X0_leastUncoveredWithin rfl rfl rfl (by decide +kernel) ⟨Nat.le_of_ble_eq_true rfl, Nat.le_of_ble_eq_true rfl⟩) (kv_preV hK hP hD (r := (RX0, TX0, 7)) (q0 := 8) (k := 1) rfl rfl rfl) rfl rfl hl.1 rfl (lv_room (Nat.le_of_ble_eq_true rfl)) dX2_leastUncovered_12 ⟨Nat.le_of_ble_eq_true rfl, Nat.le_of_ble_eq_true rfl⟩) hD hS hA (fun r_12 u_12 H locs hw_12 hP hD hS => ?_)
  have e := kv_q1_e e hw_12
  rw [hQ]
  exact W.iret (v := r_12) hx hb hr (fun t ht hW => ⟨⟨r_12, (o0_4, o1_4, o2_4, o3_4, o4_4), rfl, e, ⟨by rw [ht]; exact hP, by rw [hAe]; exact hD⟩⟩, hS.F ht⟩) hS.2.2 dX2_leastUncovered_15
