def pf_X2_setCores (p0 : Int32) (p1 : Int32) (kc : Nat → Int32) : Option ((Int32 × (Nat → Int32)) ⊕ Nat) :=
  kv_x0 (pf_X2_requireMachine p0) (kv_x0 (pf_X2_requireRange p1 1 64) (kv_G p0 8 (kv_T (kc p0.toNatClampNeg) (fun y_16 => kv_G p0 8 (kv_T (upd kc p0.toNatClampNeg p1) (fun g_24 => some (.inl (y_16, g_24))))))))
abbrev rmX2_setCores : Room := { frames := 7, cells := 2, slots := 12, locals := 104 }
set_option maxHeartbeats 4000000 in
set_option maxRecDepth 100000 in
theorem c_X2_setCores (l : Launch) (hl9 : l.stackTraces = false) (D : va_G) (ci ad : Nat → Nat) (kc : Nat → Int32) (kh : Nat → Int32) (ks : Nat → Int32) (fo : Nat → Nat → Int32) (kl : Nat → Int32) (kp : Nat → Int32) (dy : Int32) (mo : Int32) (n : Nat) (pa : Nat → Nat) (aE : Nat) (qp : Nat → Int32) (qm : Nat → Int32) (ql : Nat → Int32) (qv : Nat → Int32) (qc : Nat → Int32) (qe : Nat → Int32) (mt : Nat → Int32) (mv : Nat → Int32) (sw : Nat → Int32) (hv : Int32) (tk : Nat → Int32) (tn : Nat → Int32) (sc : Nat → Int32) (p0 : Int32) (p1 : Int32)  (hRn : pf_X2_setCores p0 p1 kc ≠ none) (sz : Nat) : vx_Met l yX2_setCores wsX2_setCores rmX2_setCores (va_Pc [.ref (ad 0), .int p0, .int p1] (kv_preX D ci (kv_kw ci ad kc kh ks fo kl kp dy mo n pa aE qp qm ql qv qc qe mt mv sw hv tk tn sc) sz))  (va_Qi (fun (r : Int32) (u : (Nat → Int32)) => pf_X2_setCores p0 p1 kc = some (.inl (r, u))) (fun u t => kv_post D (kv_kw ci ad kc kh ks fo kl kp dy mo n pa aE qp qm ql qv qc qe mt mv sw hv tk tn sc) sz (kv_kw ci ad u kh ks fo kl kp dy mo n pa aE qp qm ql qv qc qe mt mv sw hv tk tn sc) t) (va_A (kv_kw ci ad kc kh ks fo kl kp dy mo n pa aE qp qm ql qv qc qe mt mv sw hv tk tn sc) sz)) (vx_X (fun u : Nat => pf_X2_setCores p0 p1 kc = some (.inr u)) (fun E u t => E = kv_ex u ∧ kv_post D (kv_kw ci ad kc kh ks fo kl kp dy mo n pa aE qp qm ql qv qc qe mt mv sw hv tk tn sc) sz (kv_kw ci ad kc kh ks fo kl kp dy mo n pa aE qp qm ql qv qc qe mt mv sw hv tk tn sc) t) (va_A (kv_kw ci ad kc kh ks fo kl kp dy mo n pa aE qp qm ql qv qc qe mt mv sw hv tk tn sc) sz)) 2 12 (va_A (kv_kw ci ad kc kh ks fo kl kp dy mo n pa aE qp qm ql qv qc qe mt mv sw hv tk tn sc) sz) := by
  refine vx_ofW (cc := cX2_setCores) (maxL := 4) (ret := (some .int)) (by decide) rfl ?_
  intro p en s m args below meth c s₁ B hml hex hv
  obtain ⟨hv0, ⟨hsz, hP, hK, hD0⟩, hT⟩ := hv
  have hx := B.exec
  have hb := B.bytes
  have hr := B.returns
  have hts := atoms_spec (ws := wsX2_setCores) B.pre
  have hown : s.vm.findClass RX2 = some m.cls := findClass_of_methodNamed B.named
  have hlocks := B.notSynchronized
  subst hsz
  have hD := hD0.self (sz := s.heap.size)
  generalize hAe : va_A (kv_kw ci ad kc kh ks fo kl kp dy mo n pa aE qp qm ql qv qc qe mt mv sw hv tk tn sc) s.heap.size = A at hD hT ⊢
  have hA : ∀ q : Nat, s.heap.size ≤ q → A q := fun q h => by rw [← hAe]; exact Or.inr h
  have hS : va_S A s.heap s.heap [] := va_S.rf
  have hP : va_P D vwCl (kv_kw ci ad kc kh ks fo kl kp dy mo n pa aE qp qm ql qv qc qe mt mv sw hv tk tn sc) s.heap := hP
  have hinRX2 : ∀ w ∈ u_ws RX2 TX2 9, w ∈ wsX2_setCores := by decide +kernel
  generalize hRd : pf_X2_setCores p0 p1 kc = Rz at hRn
  have hRz := hRn
  refine kv_Q (fun Q hQ => ?_)
  refine W.eq (show entryFrame m args 4 = _ from by rw [hv0, lg_entry_eq]) ?_
  have hl := lv_entry ([.ref (ad 0), .int p0, .int p1]) (n := 4) (Nat.le_of_ble_eq_true rfl)
  generalize (lg_sl ([.ref (ad 0), .int p0, .int p1]) ++ List.replicate (4 - (lg_sl ([.ref (ad 0), .int p0, .int p1])).length) Slot.unset).toArray = ls at hl ⊢
  have hl : lv_has ls 4 [(0, .ref (ad 0)), (1, .int p0), (2, .int p1)] := hl
  have e : Rz = pf_X2_setCores p0 p1 kc := hRd.symm
  rw [pf_X2_setCores] at e
  refine lv_iload_n hx hb dX2_setCores_0 rfl (lv_at hl 1 rfl) ?_
  refine kv_xcallv (vx_runS (As := [.int p0]) (rest := []) ⟨hx, hb, hml, hown, hts⟩ (c_X2_requireMachine l hl9 D ci ad kc kh ks fo kl kp dy mo n pa aE qp qm ql qv qc qe mt mv sw hv tk tn sc p0 (kv_x0_n e hRz) s.heap.size) (va_cwS 1 hts gX2_setCores_X2_requireMachine rfl rfl rfl (by decide +kernel) ⟨Nat.le_of_ble_eq_true rfl, Nat.le_of_ble_eq_true rfl⟩) (kv_preSX hK hP hD hT hS hA) rfl rfl hl.1 rfl (lv_room (Nat.le_of_ble_eq_true rfl)) dX2_setCores_1 ⟨Nat.le_of_ble_eq_true rfl, Nat.le_of_ble_eq_true rfl⟩) hD hS hA (fun ce q9 u9 H locs hw9 hP hD hS h1 h2 h3 => ?_) (fun u_1 H locs hw_1 hP hD hS => ?_)
  · rw [hQ]
    exact vx_out (fun x h => (hex x h).elim) hlocks h1 h2 h3 (fun t ht hvm => ⟨u9, kv_x0_t e hw9, ⟨rfl, by rw [ht]; exact hP, by rw [hAe]; exact hD⟩, hS.F ht⟩) hS.2.2 (Nat.le_of_ble_eq_true rfl) (Nat.le_of_ble_eq_true rfl)
  have e := kv_x0_e e hw_1
  refine lv_iload_n hx hb dX2_setCores_4 rfl (lv_at hl 2 rfl) ?_
  refine lv_iconst (v := 1) hx hb dX2_setCores_5 (by decide) ?_
  refine lv_bipush (v := 64) hx hb dX2_setCores_6 (by decide) ?_
  refine kv_xcallv (vx_runS (As := [.int p1, .int 1, .int 64]) (rest := []) ⟨hx, hb, hml, hown, hts⟩ (c_X2_requireRange l hl9 D ci ad kc kh ks fo kl kp dy mo n pa aE qp qm ql qv qc qe mt mv sw hv tk tn sc p1 1 64 (kv_x0_n e hRz) H.size) (va_cwS 3 hts gX2_setCores_X2_requireRange rfl rfl rfl (by decide +kernel) ⟨Nat.le_of_ble_eq_true rfl, Nat.le_of_ble_eq_true rfl⟩) (kv_preSX hK hP hD hT hS hA) rfl rfl hl.1 rfl (lv_room (Nat.le_of_ble_eq_true rfl)) dX2_setCores_8 ⟨Nat.le_of_ble_eq_true rfl, Nat.le_of_ble_eq_true rfl⟩) hD hS hA (fun ce q9 u9 H locs hw9 hP hD hS h1 h2 h3 => ?_) (fun u_8 H locs hw_8 hP hD hS => ?_)
  · rw [hQ]
    exact vx_out (fun x h => (hex x h).elim) hlocks h1 h2 h3 (fun t ht hvm => ⟨u9, kv_x0_t e hw9, ⟨rfl, by rw [ht]; exact hP, by rw [hAe]; exact hD⟩, hS.F ht⟩) hS.2.2 (Nat.le_of_ble_eq_true rfl) (Nat.le_of_ble_eq_true rfl)
  have e := kv_x0_e e hw_8
  refine lv_aload_n hx hb dX2_setCores_11 rfl (lv_at hl 0 rfl) ?_
  refine va_get (D := D) (ci := 3) (v := .ref (ad 1)) (C := RX2) (T := TX2) (N := 9) hx hb hts hinRX2 hown hK hP 0 rfl rfl 0 (by decide) (hts (.fieldLink RX2 9 "LicenceKeeper" "cores" "[I") (by decide +kernel)) (fun _ h9 => h9) rfl dX2_setCores_12 ?_
  refine lv_iload_n hx hb dX2_setCores_15 rfl (lv_at hl 1 rfl) ?_
  obtain ⟨hi_16, e⟩ := kv_G_e e hRz
  refine kv_iald hx hb hK hP 1 0 hi_16 dX2_setCores_16 rfl rfl (fun y_16 ey_16 => ?_)
  have e := kv_T_e e ey_16
  refine lv_istore_n (lv' := [(3, .int y_16), (0, .ref (ad 0)), (1, .int p0), (2, .int p1)]) hx hb dX2_setCores_17 rfl hl (by decide) rfl (fun ls hl => ?_)
  refine lv_aload_n hx hb dX2_setCores_18 rfl (lv_at hl 1 rfl) ?_
  refine va_get (D := D) (ci := 3) (v := .ref (ad 1)) (C := RX2) (T := TX2) (N := 9) hx hb hts hinRX2 hown hK hP 0 rfl rfl 0 (by decide) (hts (.fieldLink RX2 9 "LicenceKeeper" "cores" "[I") (by decide +kernel)) (fun _ h9 => h9) rfl dX2_setCores_19 ?_
  refine lv_iload_n hx hb dX2_setCores_22 rfl (lv_at hl 2 rfl) ?_
  refine lv_iload_n hx hb dX2_setCores_23 rfl (lv_at hl 3 rfl) ?_
  obtain ⟨hi_24, e⟩ := kv_G_e e hRz
  refine kv_iast hx hb hK hP hD hS 1 0 (fun g_24 => (kv_kw ci ad g_24 kh ks fo kl kp dy mo n pa aE qp qm ql qv qc qe mt mv sw hv tk tn sc)) hi_24 dX2_setCores_24 rfl rfl (fun _ => rfl) (fun g_24 H locs eg_24 hP hD hS => ?_)
  have e := kv_T_e e eg_24
  refine lv_iload_n hx hb dX2_setCores_25 rfl (lv_at hl 0 rfl) ?_
  rw [hQ]
  refine W.widen (k := 2) (n := 12) (Nat.le_of_ble_eq_true rfl) (Nat.le_of_ble_eq_true rfl) ?_
  refine vx_ret ?_
  exact W.iret (v := y_16) hx hb hr (fun t ht hW => ⟨⟨y_16, (g_24), rfl, e, ⟨by rw [ht]; exact hP, by rw [hAe]; exact hD⟩⟩, hS.F ht⟩) hS.2.2 dX2_setCores_26

def pf_X2_move (p0 : Int32) (p1 : Int32) (kh : Nat → Int32) : Option ((Int32 × (Nat → Int32)) ⊕ Nat) :=
  kv_x0 (pf_X2_requireMovable kh p0 p1) (kv_G p0 8 (kv_T (kh p0.toNatClampNeg) (fun y_11 => kv_G p0 8 (kv_T (upd kh p0.toNatClampNeg p1) (fun g_19 => some (.inl (y_11, g_19)))))))
abbrev rmX2_move : Room := { frames := 8, cells := 3, slots := 18, locals := 124 }
set_option maxHeartbeats 4000000 in
set_option maxRecDepth 100000 in
theorem c_X2_move (l : Launch) (hl9 : l.stackTraces = false) (D : va_G) (ci ad : Nat → Nat) (kc : Nat → Int32) (kh : Nat → Int32) (ks : Nat → Int32) (fo : Nat → Nat → Int32) (kl : Nat → Int32) (kp : Nat → Int32) (dy : Int32) (mo : Int32) (n : Nat) (pa : Nat → Nat) (aE : Nat) (qp : Nat → Int32) (qm : Nat → Int32) (ql : Nat → Int32) (qv : Nat → Int32) (qc : Nat → Int32) (qe : Nat → Int32) (mt : Nat → Int32) (mv : Nat → Int32) (sw : Nat → Int32) (hv : Int32) (tk : Nat → Int32) (tn : Nat → Int32) (sc : Nat → Int32) (p0 : Int32) (p1 : Int32)  (hRn : pf_X2_move p0 p1 kh ≠ none) (sz : Nat) : vx_Met l yX2_move wsX2_move rmX2_move (va_Pc [.ref (ad 0), .int p0, .int p1] (kv_preX D ci (kv_kw ci ad kc kh ks fo kl kp dy mo n pa aE qp qm ql qv qc qe mt mv sw hv tk tn sc) sz))  (va_Qi (fun (r : Int32) (u : (Nat → Int32)) => pf_X2_move p0 p1 kh = some (.inl (r, u))) (fun u t => kv_post D (kv_kw ci ad kc kh ks fo kl kp dy mo n pa aE qp qm ql qv qc qe mt mv sw hv tk tn sc) sz (kv_kw ci ad kc u ks fo kl kp dy mo n pa aE qp qm ql qv qc qe mt mv sw hv tk tn sc) t) (va_A (kv_kw ci ad kc kh ks fo kl kp dy mo n pa aE qp qm ql qv qc qe mt mv sw hv tk tn sc) sz)) (vx_X (fun u : Nat => pf_X2_move p0 p1 kh = some (.inr u)) (fun E u t => E = kv_ex u ∧ kv_post D (kv_kw ci ad kc kh ks fo kl kp dy mo n pa aE qp qm ql qv qc qe mt mv sw hv tk tn sc) sz (kv_kw ci ad kc kh ks fo kl kp dy mo n pa aE qp qm ql qv qc qe mt mv sw hv tk tn sc) t) (va_A (kv_kw ci ad kc kh ks fo kl kp dy mo n pa aE qp qm ql qv qc qe mt mv sw hv tk tn sc) sz)) 3 18 (va_A (kv_kw ci ad kc kh ks fo kl kp dy mo n pa aE qp qm ql qv qc qe mt mv sw hv tk tn sc) sz) := by
  refine vx_ofW (cc := cX2_move) (maxL := 4) (ret := (some .int)) (by decide) rfl ?_
  intro p en s m args below meth c s₁ B hml hex hv
  obtain ⟨hv0, ⟨hsz, hP, hK, hD0⟩, hT⟩ := hv
  have hx := B.exec
  have hb := B.bytes
  have hr := B.returns
  have hts := atoms_spec (ws := wsX2_move) B.pre
  have hown : s.vm.findClass RX2 = some m.cls := findClass_of_methodNamed B.named
  have hlocks := B.notSynchronized
  subst hsz
  have hD := hD0.self (sz := s.heap.size)
  generalize hAe : va_A (kv_kw ci ad kc kh ks fo kl kp dy mo n pa aE qp qm ql qv qc qe mt mv sw hv tk tn sc) s.heap.size = A at hD hT ⊢
  have hA : ∀ q : Nat, s.heap.size ≤ q → A q := fun q h => by rw [← hAe]; exact Or.inr h
  have hS : va_S A s.heap s.heap [] := va_S.rf
  have hP : va_P D vwCl (kv_kw ci ad kc kh ks fo kl kp dy mo n pa aE qp qm ql qv qc qe mt mv sw hv tk tn sc) s.heap := hP
  have hinRX2 : ∀ w ∈ u_ws RX2 TX2 9, w ∈ wsX2_move := by decide +kernel
  generalize hRd : pf_X2_move p0 p1 kh = Rz at hRn
  have hRz := hRn
  refine kv_Q (fun Q hQ => ?_)
  refine W.eq (show entryFrame m args 4 = _ from by rw [hv0, lg_entry_eq]) ?_
  have hl := lv_entry ([.ref (ad 0), .int p0, .int p1]) (n := 4) (Nat.le_of_ble_eq_true rfl)
  generalize (lg_sl ([.ref (ad 0), .int p0, .int p1]) ++ List.replicate (4 - (lg_sl ([.ref (ad 0), .int p0, .int p1])).length) Slot.unset).toArray = ls at hl ⊢
  have hl : lv_has ls 4 [(0, .ref (ad 0)), (1, .int p0), (2, .int p1)] := hl
  have e : Rz = pf_X2_move p0 p1 kh := hRd.symm
  rw [pf_X2_move] at e
  refine lv_aload_n hx hb dX2_move_0 rfl (lv_at hl 0 rfl) ?_
  refine lv_iload_n hx hb dX2_move_1 rfl (lv_at hl 1 rfl) ?_
  refine lv_iload_n hx hb dX2_move_2 rfl (lv_at hl 2 rfl) ?_
  refine kv_xcallv (vx_runV (As := [.int p0, .int p1]) (rest := []) ⟨hx, hb, hml, hown, hts⟩ (c_X2_requireMovable l hl9 D ci ad kc kh ks fo kl kp dy mo n pa aE qp qm ql qv qc qe mt mv sw hv tk tn sc p0 p1 (kv_x0_n e hRz) s.heap.size) (cwV 2 hts gX2_move_X2_requireMovable rfl rfl rfl (by decide +kernel) ⟨Nat.le_of_ble_eq_true rfl, Nat.le_of_ble_eq_true rfl⟩) (kv_preVX hK hP hD hT hS hA (r := (RX2, TX2, 9)) (q0 := 0) (k := 3) rfl rfl rfl) rfl rfl hl.1 rfl (lv_room (Nat.le_of_ble_eq_true rfl)) dX2_move_3 ⟨Nat.le_of_ble_eq_true rfl, Nat.le_of_ble_eq_true rfl⟩) hD hS hA (fun ce q9 u9 H locs hw9 hP hD hS h1 h2 h3 => ?_) (fun u_3 H locs hw_3 hP hD hS => ?_)
  · rw [hQ]
    exact vx_out (fun x h => (hex x h).elim) hlocks h1 h2 h3 (fun t ht hvm => ⟨u9, kv_x0_t e hw9, ⟨rfl, by rw [ht]; exact hP, by rw [hAe]; exact hD⟩, hS.F ht⟩) hS.2.2 (Nat.le_of_ble_eq_true rfl) (Nat.le_of_ble_eq_true rfl)
  have e := kv_x0_e e hw_3
  refine lv_aload_n hx hb dX2_move_6 rfl (lv_at hl 0 rfl) ?_
  refine va_get (D := D) (ci := 3) (v := .ref (ad 2)) (C := RX2) (T := TX2) (N := 9) hx hb hts hinRX2 hown hK hP 0 rfl rfl 1 (by decide) (hts (.fieldLink RX2 13 "LicenceKeeper" "hosts" "[I") (by decide +kernel)) (fun _ h9 => h9) rfl dX2_move_7 ?_
  refine lv_iload_n hx hb dX2_move_10 rfl (lv_at hl 1 rfl) ?_
  obtain ⟨hi_11, e⟩ := kv_G_e e hRz
  refine kv_iald hx hb hK hP 2 0 hi_11 dX2_move_11 rfl rfl (fun y_11 ey_11 => ?_)
  have e := kv_T_e e ey_11
  refine lv_istore_n (lv' := [(3, .int y_11), (0, .ref (ad 0)), (1, .int p0), (2, .int p1)]) hx hb dX2_move_12 rfl hl (by decide) rfl (fun ls hl => ?_)
  refine lv_aload_n hx hb dX2_move_13 rfl (lv_at hl 1 rfl) ?_
  refine va_get (D := D) (ci := 3) (v := .ref (ad 2)) (C := RX2) (T := TX2) (N := 9) hx hb hts hinRX2 hown hK hP 0 rfl rfl 1 (by decide) (hts (.fieldLink RX2 13 "LicenceKeeper" "hosts" "[I") (by decide +kernel)) (fun _ h9 => h9) rfl dX2_move_14 ?_
  refine lv_iload_n hx hb dX2_move_17 rfl (lv_at hl 2 rfl) ?_
  refine lv_iload_n hx hb dX2_move_18 rfl (lv_at hl 3 rfl) ?_
  obtain ⟨hi_19, e⟩ := kv_G_e e hRz
  refine kv_iast hx hb hK hP hD hS 2 0 (fun g_19 => (kv_kw ci ad kc g_19 ks fo kl kp dy mo n pa aE qp qm ql qv qc qe mt mv sw hv tk tn sc)) hi_19 dX2_move_19 rfl rfl (fun _ => rfl) (fun g_19 H locs eg_19 hP hD hS => ?_)
  have e := kv_T_e e eg_19
  refine lv_iload_n hx hb dX2_move_20 rfl (lv_at hl 0 rfl) ?_
  rw [hQ]
  refine W.widen (k := 3) (n := 18) (Nat.le_of_ble_eq_true rfl) (Nat.le_of_ble_eq_true rfl) ?_
  refine vx_ret ?_
  exact W.iret (v := y_11) hx hb hr (fun t ht hW => ⟨⟨y_11, (g_19), rfl, e, ⟨by rw [ht]; exact hP, by rw [hAe]; exact hD⟩⟩, hS.F ht⟩) hS.2.2 dX2_move_21

def pf_X2_find (kl : Nat → Int32) (p0 : Int32) (p1 : Int32) (p2 : Int32) (fo : Nat → Nat → Int32) : Option ((Int32 × (Nat → Nat → Int32)) ⊕ Nat) :=
  kv_x0 (pf_X2_requireMachine p0) (kv_x0 (pf_X2_requireProduct p1) (kv_G p1 4 (kv_T (kl p1.toNatClampNeg) (fun y_15 => kv_x0 (pf_X2_requireRange p2 0 y_15) (kv_G p0 8 (kv_G p1 4 (kv_T (fo p0.toNatClampNeg p1.toNatClampNeg) (fun y_26 => kv_G p0 8 (kv_G p1 4 (kv_T (upd (fo p0.toNatClampNeg) p1.toNatClampNeg p2) (fun g_37 => some (.inl (y_26, (kv_upR fo p0.toNatClampNeg g_37))))))))))))))
abbrev rmX2_find : Room := { frames := 7, cells := 3, slots := 18, locals := 104 }
set_option maxHeartbeats 4000000 in
set_option maxRecDepth 100000 in
theorem c_X2_find (l : Launch) (hl9 : l.stackTraces = false) (D : va_G) (ci ad : Nat → Nat) (kc : Nat → Int32) (kh : Nat → Int32) (ks : Nat → Int32) (fo : Nat → Nat → Int32) (kl : Nat → Int32) (kp : Nat → Int32) (dy : Int32) (mo : Int32) (n : Nat) (pa : Nat → Nat) (aE : Nat) (qp : Nat → Int32) (qm : Nat → Int32) (ql : Nat → Int32) (qv : Nat → Int32) (qc : Nat → Int32) (qe : Nat → Int32) (mt : Nat → Int32) (mv : Nat → Int32) (sw : Nat → Int32) (hv : Int32) (tk : Nat → Int32) (tn : Nat → Int32) (sc : Nat → Int32) (p0 : Int32) (p1 : Int32) (p2 : Int32)  (hRn : pf_X2_find kl p0 p1 p2 fo ≠ none) (sz : Nat) : vx_Met l yX2_find wsX2_find rmX2_find (va_Pc [.ref (ad 0), .int p0, .int p1, .int p2] (kv_preX D ci (kv_kw ci ad kc kh ks fo kl kp dy mo n pa aE qp qm ql qv qc qe mt mv sw hv tk tn sc) sz))  (va_Qi (fun (r : Int32) (u : (Nat → Nat → Int32)) => pf_X2_find kl p0 p1 p2 fo = some (.inl (r, u))) (fun u t => kv_post D (kv_kw ci ad kc kh ks fo kl kp dy mo n pa aE qp qm ql qv qc qe mt mv sw hv tk tn sc) sz (kv_kw ci ad kc kh ks u kl kp dy mo n pa aE qp qm ql qv qc qe mt mv sw hv tk tn sc) t) (va_A (kv_kw ci ad kc kh ks fo kl kp dy mo n pa aE qp qm ql qv qc qe mt mv sw hv tk tn sc) sz)) (vx_X (fun u : Nat => pf_X2_find kl p0 p1 p2 fo = some (.inr u)) (fun E u t => E = kv_ex u ∧ kv_post D (kv_kw ci ad kc kh ks fo kl kp dy mo n pa aE qp qm ql qv qc qe mt mv sw hv tk tn sc) sz (kv_kw ci ad kc kh ks fo kl kp dy mo n pa aE qp qm ql qv qc qe mt mv sw hv tk tn sc) t) (va_A (kv_kw ci ad kc kh ks fo kl kp dy mo n pa aE qp qm ql qv qc qe mt mv sw hv tk tn sc) sz)) 3 18 (va_A (kv_kw ci ad kc kh ks fo kl kp dy mo n pa aE qp qm ql qv qc qe mt mv sw hv tk tn sc) sz) := by
  refine vx_ofW (cc := cX2_find) (maxL := 5) (ret := (some .int)) (by decide) rfl ?_
  intro p en s m args below meth c s₁ B hml hex hv
  obtain ⟨hv0, ⟨hsz, hP, hK, hD0⟩, hT⟩ := hv
  have hx := B.exec
  have hb := B.bytes
  have hr := B.returns
  have hts := atoms_spec (ws := wsX2_find) B.pre
  have hown : s.vm.findClass RX2 = some m.cls := findClass_of_methodNamed B.named
  have hlocks := B.notSynchronized
  subst hsz
  have hD := hD0.self (sz := s.heap.size)
  generalize hAe : va_A (kv_kw ci ad kc kh ks fo kl kp dy mo n pa aE qp qm ql qv qc qe mt mv sw hv tk tn sc) s.heap.size = A at hD hT ⊢
  have hA : ∀ q : Nat, s.heap.size ≤ q → A q := fun q h => by rw [← hAe]; exact Or.inr h
  have hS : va_S A s.heap s.heap [] := va_S.rf
  have hP : va_P D vwCl (kv_kw ci ad kc kh ks fo kl kp dy mo n pa aE qp qm ql qv qc qe mt mv sw hv tk tn sc) s.heap := hP
  have hinRX2 : ∀ w ∈ u_ws RX2 TX2 9, w ∈ wsX2_find := by decide +kernel
  generalize hRd : pf_X2_find kl p0 p1 p2 fo = Rz at hRn
  have hRz := hRn
  refine kv_Q (fun Q hQ => ?_)
  refine W.eq (show entryFrame m args 5 = _ from by rw [hv0, lg_entry_eq]) ?_
  have hl := lv_entry ([.ref (ad 0), .int p0, .int p1, .int p2]) (n := 5) (Nat.le_of_ble_eq_true rfl)
  generalize (lg_sl ([.ref (ad 0), .int p0, .int p1, .int p2]) ++ List.replicate (5 - (lg_sl ([.ref (ad 0), .int p0, .int p1, .int p2])).length) Slot.unset).toArray = ls at hl ⊢
  have hl : lv_has ls 5 [(0, .ref (ad 0)), (1, .int p0), (2, .int p1), (3, .int p2)] := hl
  have e : Rz = pf_X2_find kl p0 p1 p2 fo := hRd.symm
  rw [pf_X2_find] at e
  refine lv_iload_n hx hb dX2_find_0 rfl (lv_at hl 1 rfl) ?_
  refine kv_xcallv (vx_runS (As := [.int p0]) (rest := []) ⟨hx, hb, hml, hown, hts⟩ (c_X2_requireMachine l hl9 D ci ad kc kh ks fo kl kp dy mo n pa aE qp qm ql qv qc qe mt mv sw hv tk tn sc p0 (kv_x0_n e hRz) s.heap.size) (va_cwS 1 hts gX2_find_X2_requireMachine rfl rfl rfl (by decide +kernel) ⟨Nat.le_of_ble_eq_true rfl, Nat.le_of_ble_eq_true rfl⟩) (kv_preSX hK hP hD hT hS hA) rfl rfl hl.1 rfl (lv_room (Nat.le_of_ble_eq_true rfl)) dX2_find_1 ⟨Nat.le_of_ble_eq_true rfl, Nat.le_of_ble_eq_true rfl⟩) hD hS hA (fun ce q9 u9 H locs hw9 hP hD hS h1 h2 h3 => ?_) (fun u_1 H locs hw_1 hP hD hS => ?_)
  · rw [hQ]
    exact vx_out (fun x h => (hex x h).elim) hlocks h1 h2 h3 (fun t ht hvm => ⟨u9, kv_x0_t e hw9, ⟨rfl, by rw [ht]; exact hP, by rw [hAe]; exact hD⟩, hS.F ht⟩) hS.2.2 (Nat.le_of_ble_eq_true rfl) (Nat.le_of_ble_eq_true rfl)
  have e := kv_x0_e e hw_1
  refine lv_iload_n hx hb dX2_find_4 rfl (lv_at hl 2 rfl) ?_
  refine kv_xcallv (vx_runS (As := [.int p1]) (rest := []) ⟨hx, hb, hml, hown, hts⟩ (c_X2_requireProduct l hl9 D ci ad kc kh ks fo kl kp dy mo n pa aE qp qm ql qv qc qe mt mv sw hv tk tn sc p1 (kv_x0_n e hRz) H.size) (va_cwS 1 hts gX2_find_X2_requireProduct rfl rfl rfl (by decide +kernel) ⟨Nat.le_of_ble_eq_true rfl, Nat.le_of_ble_eq_true rfl⟩) (kv_preSX hK hP hD hT hS hA) rfl rfl hl.1 rfl (lv_room (Nat.le_of_ble_eq_true rfl)) dX2_find_5 ⟨Nat.le_of_ble_eq_true rfl, Nat.le_of_ble_eq_true rfl⟩) hD hS hA (fun ce q9 u9 H locs hw9 hP hD hS h1 h2 h3 => ?_) (fun u_5 H locs hw_5 hP hD hS => ?_)
  · rw [hQ]
    exact vx_out (fun x h => (hex x h).elim) hlocks h1 h2 h3 (fun t ht hvm => ⟨u9, kv_x0_t e hw9, ⟨rfl, by rw [ht]; exact hP, by rw [hAe]; exact hD⟩, hS.F ht⟩) hS.2.2 (Nat.le_of_ble_eq_true rfl) (Nat.le_of_ble_eq_true rfl)
  have e := kv_x0_e e hw_5
  refine lv_iload_n hx hb dX2_find_8 rfl (lv_at hl 3 rfl) ?_
  refine lv_iconst (v := 0) hx hb dX2_find_9 (by decide) ?_
  refine lv_aload_n hx hb dX2_find_10 rfl (lv_at hl 0 rfl) ?_
  refine va_get (D := D) (ci := 3) (v := .ref (ad 5)) (C := RX2) (T := TX2) (N := 9) hx hb hts hinRX2 hown hK hP 0 rfl rfl 4 (by decide) (hts (.fieldLink RX2 24 "LicenceKeeper" "latestVersions" "[I") (by decide +kernel)) (fun _ h9 => h9) rfl dX2_find_11 ?_
  refine lv_iload_n hx hb dX2_find_14 rfl (lv_at hl 2 rfl) ?_
  obtain ⟨hi_15, e⟩ := kv_G_e e hRz
  refine kv_iald hx hb hK hP 5 0 hi_15 dX2_find_15 rfl rfl (fun y_15 ey_15 => ?_)
  have e := kv_T_e e ey_15
  refine kv_xcallv (vx_runS (As := [.int p2, .int 0, .int y_15]) (rest := []) ⟨hx, hb, hml, hown, hts⟩ (c_X2_requireRange l hl9 D ci ad kc kh ks fo kl kp dy mo n pa aE qp qm ql qv qc qe mt mv sw hv tk tn sc p2 0 y_15 (kv_x0_n e hRz) H.size) (va_cwS 3 hts gX2_find_X2_requireRange rfl rfl rfl (by decide +kernel) ⟨Nat.le_of_ble_eq_true rfl, Nat.le_of_ble_eq_true rfl⟩) (kv_preSX hK hP hD hT hS hA) rfl rfl hl.1 rfl (lv_room (Nat.le_of_ble_eq_true rfl)) dX2_find_16 ⟨Nat.le_of_ble_eq_true rfl, Nat.le_of_ble_eq_true rfl⟩) hD hS hA (fun ce q9 u9 H locs hw9 hP hD hS h1 h2 h3 => ?_) (fun u_16 H locs hw_16 hP hD hS => ?_)
  · rw [hQ]
    exact vx_out (fun x h => (hex x h).elim) hlocks h1 h2 h3 (fun t ht hvm => ⟨u9, kv_x0_t e hw9, ⟨rfl, by rw [ht]; exact hP, by rw [hAe]; exact hD⟩, hS.F ht⟩) hS.2.2 (Nat.le_of_ble_eq_true rfl) (Nat.le_of_ble_eq_true rfl)
  have e := kv_x0_e e hw_16
  refine lv_aload_n hx hb dX2_find_19 rfl (lv_at hl 0 rfl) ?_
  refine va_get (D := D) (ci := 3) (v := .ref (ad 4)) (C := RX2) (T := TX2) (N := 9) hx hb hts hinRX2 hown hK hP 0 rfl rfl 3 (by decide) (hts (.fieldLink RX2 21 "LicenceKeeper" "found" "[[I") (by decide +kernel)) (fun _ h9 => h9) rfl dX2_find_20 ?_
  refine lv_iload_n hx hb dX2_find_23 rfl (lv_at hl 1 rfl) ?_
  obtain ⟨hi_24, e⟩ := kv_G_e e hRz
  refine kv_aldr hx hb hK hP 4 3 hi_24 (kv_out hi_24) dX2_find_24 rfl rfl ?_
  refine lv_iload_n hx hb dX2_find_25 rfl (lv_at hl 2 rfl) ?_
  obtain ⟨hi_26, e⟩ := kv_G_e e hRz
  refine kv_iald hx hb hK hP (15 + p0.toNatClampNeg) 0 hi_26 dX2_find_26 (kv_row hi_24) rfl (fun y_26 ey_26 => ?_)
  have e := kv_T_e e ey_26
  refine lv_istore (lv' := [(4, .int y_26), (0, .ref (ad 0)), (1, .int p0), (2, .int p1), (3, .int p2)]) hx hb dX2_find_27 hl (by decide) rfl (fun ls hl => ?_)
  refine lv_aload_n hx hb dX2_find_29 rfl (lv_at hl 1 rfl) ?_
  refine va_get (D := D) (ci := 3) (v := .ref (ad 4)) (C := RX2) (T := TX2) (N := 9) hx hb hts hinRX2 hown hK hP 0 rfl rfl 3 (by decide) (hts (.fieldLink RX2 21 "LicenceKeeper" "found" "[[I") (by decide +kernel)) (fun _ h9 => h9) rfl dX2_find_30 ?_
  refine lv_iload_n hx hb dX2_find_33 rfl (lv_at hl 2 rfl) ?_
  obtain ⟨hi_34, e⟩ := kv_G_e e hRz
  refine kv_aldr hx hb hK hP 4 3 hi_34 (kv_out hi_34) dX2_find_34 rfl rfl ?_
  refine lv_iload_n hx hb dX2_find_35 rfl (lv_at hl 3 rfl) ?_
  refine lv_iload_n hx hb dX2_find_36 rfl (lv_at hl 4 rfl) ?_
  obtain ⟨hi_37, e⟩ := kv_G_e e hRz
  refine kv_iast hx hb hK hP hD hS (15 + p0.toNatClampNeg) 0 (fun g_37 => (kv_kw ci ad kc kh ks (kv_upR fo p0.toNatClampNeg g_37) kl kp dy mo n pa aE qp qm ql qv qc qe mt mv sw hv tk tn sc)) hi_37 dX2_find_37 (kv_row hi_34) rfl (fun _ => kv_row_set hi_34 _) (fun g_37 H locs eg_37 hP hD hS => ?_)
  have e := kv_T_e e eg_37
  refine lv_iload hx hb dX2_find_38 (lv_at hl 0 rfl) ?_
  rw [hQ]
  refine W.widen (k := 3) (n := 18) (Nat.le_of_ble_eq_true rfl) (Nat.le_of_ble_eq_true rfl) ?_
  refine vx_ret ?_
  exact W.iret (v := y_26) hx hb hr (fun t ht hW => ⟨⟨y_26, ((kv_upR fo p0.toNatClampNeg g_37)), rfl, e, ⟨by rw [ht]; exact hP, by rw [hAe]; exact hD⟩⟩, hS.F ht⟩) hS.2.2 dX2_find_40

def pf_X2_setPrice (p0 : Int32) (p1 : Int32) (kp : Nat → Int32) : Option ((Int32 × (Nat → Int32)) ⊕ Nat) :=
  kv_x0 (pf_X2_requireProduct p0) (kv_x0 (pf_X2_requireRange p1 0 1000) (kv_G p0 4 (kv_T (kp p0.toNatClampNeg) (fun y_17 => kv_G p0 4 (kv_T (upd kp p0.toNatClampNeg p1) (fun g_25 => some (.inl (y_17, g_25))))))))
abbrev rmX2_setPrice : Room := { frames := 7, cells := 2, slots := 12, locals := 104 }
set_option maxHeartbeats 4000000 in
set_option maxRecDepth 100000 in
theorem c_X2_setPrice (l : Launch) (hl9 : l.stackTraces = false) (D : va_G) (ci ad : Nat → Nat) (kc : Nat → Int32) (kh : Nat → Int32) (ks : Nat → Int32) (fo : Nat → Nat → Int32) (kl : Nat → Int32) (kp : Nat → Int32) (dy : Int32) (mo : Int32) (n : Nat) (pa : Nat → Nat) (aE : Nat) (qp : Nat → Int32) (qm : Nat → Int32) (ql : Nat → Int32) (qv : Nat → Int32) (qc : Nat → Int32) (qe : Nat → Int32) (mt : Nat → Int32) (mv : Nat → Int32) (sw : Nat → Int32) (hv : Int32) (tk : Nat → Int32) (tn : Nat → Int32) (sc : Nat → Int32) (p0 : Int32) (p1 : Int32)  (hRn : pf_X2_setPrice p0 p1 kp ≠ none) (sz : Nat) : vx_Met l yX2_setPrice wsX2_setPrice rmX2_setPrice (va_Pc [.ref (ad 0), .int p0, .int p1] (kv_preX D ci (kv_kw ci ad kc kh ks fo kl kp dy mo n pa aE qp qm ql qv qc qe mt mv sw hv tk tn sc) sz))  (va_Qi (fun (r : Int32) (u : (Nat → Int32)) => pf_X2_setPrice p0 p1 kp = some (.inl (r, u))) (fun u t => kv_post D (kv_kw ci ad kc kh ks fo kl kp dy mo n pa aE qp qm ql qv qc qe mt mv sw hv tk tn sc) sz (kv_kw ci ad kc kh ks fo kl u dy mo n pa aE qp qm ql qv qc qe mt mv sw hv tk tn sc) t) (va_A (kv_kw ci ad kc kh ks fo kl kp dy mo n pa aE qp qm ql qv qc qe mt mv sw hv tk tn sc) sz)) (vx_X (fun u : Nat => pf_X2_setPrice p0 p1 kp = some (.inr u)) (fun E u t => E = kv_ex u ∧ kv_post D (kv_kw ci ad kc kh ks fo kl kp dy mo n pa aE qp qm ql qv qc qe mt mv sw hv tk tn sc) sz (kv_kw ci ad kc kh ks fo kl kp dy mo n pa aE qp qm ql qv qc qe mt mv sw hv tk tn sc) t) (va_A (kv_kw ci ad kc kh ks fo kl kp dy mo n pa aE qp qm ql qv qc qe mt mv sw hv tk tn sc) sz)) 2 12 (va_A (kv_kw ci ad kc kh ks fo kl kp dy mo n pa aE qp qm ql qv qc qe mt mv sw hv tk tn sc) sz) := by
  refine vx_ofW (cc := cX2_setPrice) (maxL := 4) (ret := (some .int)) (by decide) rfl ?_
  intro p en s m args below meth c s₁ B hml hex hv
  obtain ⟨hv0, ⟨hsz, hP, hK, hD0⟩, hT⟩ := hv
  have hx := B.exec
  have hb := B.bytes
  have hr := B.returns
  have hts := atoms_spec (ws := wsX2_setPrice) B.pre
  have hown : s.vm.findClass RX2 = some m.cls := findClass_of_methodNamed B.named
  have hlocks := B.notSynchronized
  subst hsz
  have hD := hD0.self (sz := s.heap.size)
  generalize hAe : va_A (kv_kw ci ad kc kh ks fo kl kp dy mo n pa aE qp qm ql qv qc qe mt mv sw hv tk tn sc) s.heap.size = A at hD hT ⊢
  have hA : ∀ q : Nat, s.heap.size ≤ q → A q := fun q h => by rw [← hAe]; exact Or.inr h
  have hS : va_S A s.heap s.heap [] := va_S.rf
  have hP : va_P D vwCl (kv_kw ci ad kc kh ks fo kl kp dy mo n pa aE qp qm ql qv qc qe mt mv sw hv tk tn sc) s.heap := hP
  have hinRX2 : ∀ w ∈ u_ws RX2 TX2 9, w ∈ wsX2_setPrice := by decide +kernel
  generalize hRd : pf_X2_setPrice p0 p1 kp = Rz at hRn
  have hRz := hRn
  refine kv_Q (fun Q hQ => ?_)
  refine W.eq (show entryFrame m args 4 = _ from by rw [hv0, lg_entry_eq]) ?_
  have hl := lv_entry ([.ref (ad 0), .int p0, .int p1]) (n := 4) (Nat.le_of_ble_eq_true rfl)
  generalize (lg_sl ([.ref (ad 0), .int p0, .int p1]) ++ List.replicate (4 - (lg_sl ([.ref (ad 0), .int p0, .int p1])).length) Slot.unset).toArray = ls at hl ⊢
  have hl : lv_has ls 4 [(0, .ref (ad 0)), (1, .int p0), (2, .int p1)] := hl
  have e : Rz = pf_X2_setPrice p0 p1 kp := hRd.symm
  rw [pf_X2_setPrice] at e
  refine lv_iload_n hx hb dX2_setPrice_0 rfl (lv_at hl 1 rfl) ?_
  refine kv_xcallv (vx_runS (As := [.int p0]) (rest := []) ⟨hx, hb, hml, hown, hts⟩ (c_X2_requireProduct l hl9 D ci ad kc kh ks fo kl kp dy mo n pa aE qp qm ql qv qc qe mt mv sw hv tk tn sc p0 (kv_x0_n e hRz) s.heap.size) (va_cwS 1 hts gX2_setPrice_X2_requireProduct rfl rfl rfl (by decide +kernel) ⟨Nat.le_of_ble_eq_true rfl, Nat.le_of_ble_eq_true rfl⟩) (kv_preSX hK hP hD hT hS hA) rfl rfl hl.1 rfl (lv_room (Nat.le_of_ble_eq_true rfl)) dX2_setPrice_1 ⟨Nat.le_of_ble_eq_true rfl, Nat.le_of_ble_eq_true rfl⟩) hD hS hA (fun ce q9 u9 H locs hw9 hP hD hS h1 h2 h3 => ?_) (fun u_1 H locs hw_1 hP hD hS => ?_)
  · rw [hQ]
    exact vx_out (fun x h => (hex x h).elim) hlocks h1 h2 h3 (fun t ht hvm => ⟨u9, kv_x0_t e hw9, ⟨rfl, by rw [ht]; exact hP, by rw [hAe]; exact hD⟩, hS.F ht⟩) hS.2.2 (Nat.le_of_ble_eq_true rfl) (Nat.le_of_ble_eq_true rfl)
  have e := kv_x0_e e hw_1
  refine lv_iload_n hx hb dX2_setPrice_4 rfl (lv_at hl 2 rfl) ?_
  refine lv_iconst (v := 0) hx hb dX2_setPrice_5 (by decide) ?_
  refine lv_sipush (v := 1000) hx hb dX2_setPrice_6 (by decide) ?_
  refine kv_xcallv (vx_runS (As := [.int p1, .int 0, .int 1000]) (rest := []) ⟨hx, hb, hml, hown, hts⟩ (c_X2_requireRange l hl9 D ci ad kc kh ks fo kl kp dy mo n pa aE qp qm ql qv qc qe mt mv sw hv tk tn sc p1 0 1000 (kv_x0_n e hRz) H.size) (va_cwS 3 hts gX2_setPrice_X2_requireRange rfl rfl rfl (by decide +kernel) ⟨Nat.le_of_ble_eq_true rfl, Nat.le_of_ble_eq_true rfl⟩) (kv_preSX hK hP hD hT hS hA) rfl rfl hl.1 rfl (lv_room (Nat.le_of_ble_eq_true rfl)) dX2_setPrice_9 ⟨Nat.le_of_ble_eq_true rfl, Nat.le_of_ble_eq_true rfl⟩) hD hS hA (fun ce q9 u9 H locs hw9 hP hD hS h1 h2 h3 => ?_) (fun u_9 H locs hw_9 hP hD hS => ?_)
  · rw [hQ]
    exact vx_out (fun x h => (hex x h).elim) hlocks h1 h2 h3 (fun t ht hvm => ⟨u9, kv_x0_t e hw9, ⟨rfl, by rw [ht]; exact hP, by rw [hAe]; exact hD⟩, hS.F ht⟩) hS.2.2 (Nat.le_of_ble_eq_true rfl) (Nat.le_of_ble_eq_true rfl)
  have e := kv_x0_e e hw_9
  refine lv_aload_n hx hb dX2_setPrice_12 rfl (lv_at hl 0 rfl) ?_
  refine va_get (D := D) (ci := 3) (v := .ref (ad 6)) (C := RX2) (T := TX2) (N := 9) hx hb hts hinRX2 hown hK hP 0 rfl rfl 5 (by decide) (hts (.fieldLink RX2 27 "LicenceKeeper" "prices" "[I") (by decide +kernel)) (fun _ h9 => h9) rfl dX2_setPrice_13 ?_
  refine lv_iload_n hx hb dX2_setPrice_16 rfl (lv_at hl 1 rfl) ?_
  obtain ⟨hi_17, e⟩ := kv_G_e e hRz
  refine kv_iald hx hb hK hP 6 0 hi_17 dX2_setPrice_17 rfl rfl (fun y_17 ey_17 => ?_)
  have e := kv_T_e e ey_17
  refine lv_istore_n (lv' := [(3, .int y_17), (0, .ref (ad 0)), (1, .int p0), (2, .int p1)]) hx hb dX2_setPrice_18 rfl hl (by decide) rfl (fun ls hl => ?_)
  refine lv_aload_n hx hb dX2_setPrice_19 rfl (lv_at hl 1 rfl) ?_
  refine va_get (D := D) (ci := 3) (v := .ref (ad 6)) (C := RX2) (T := TX2) (N := 9) hx hb hts hinRX2 hown hK hP 0 rfl rfl 5 (by decide) (hts (.fieldLink RX2 27 "LicenceKeeper" "prices" "[I") (by decide +kernel)) (fun _ h9 => h9) rfl dX2_setPrice_20 ?_
  refine lv_iload_n hx hb dX2_setPrice_23 rfl (lv_at hl 2 rfl) ?_
  refine lv_iload_n hx hb dX2_setPrice_24 rfl (lv_at hl 3 rfl) ?_
  obtain ⟨hi_25, e⟩ := kv_G_e e hRz
  refine kv_iast hx hb hK hP hD hS 6 0 (fun g_25 => (kv_kw ci ad kc kh ks fo kl g_25 dy mo n pa aE qp qm ql qv qc qe mt mv sw hv tk tn sc)) hi_25 dX2_setPrice_25 rfl rfl (fun _ => rfl) (fun g_25 H locs eg_25 hP hD hS => ?_)
  have e := kv_T_e e eg_25
  refine lv_iload_n hx hb dX2_setPrice_26 rfl (lv_at hl 0 rfl) ?_
  rw [hQ]
  refine W.widen (k := 2) (n := 12) (Nat.le_of_ble_eq_true rfl) (Nat.le_of_ble_eq_true rfl) ?_
  refine vx_ret ?_
  exact W.iret (v := y_17) hx hb hr (fun t ht hW => ⟨⟨y_17, (g_25), rfl, e, ⟨by rw [ht]; exact hP, by rw [hAe]; exact hD⟩⟩, hS.F ht⟩) hS.2.2 dX2_setPrice_27

def pf_X2_release_41b (dy : Int32) (n : Nat) (qp : Nat → Int32) (ql : Nat → Int32) (p0 : Int32)  (k_41 : Int32 → Int32 → Int32 → (Nat → Int32) → (Nat → Int32) → Option ((Int32 × (Nat → Int32) × (Nat → Int32)) ⊕ Nat)) (x2 : Int32) (x3 : Int32) (x4 : Int32) (kl : Nat → Int32) (qv : Nat → Int32) : Option ((Int32 × (Nat → Int32) × (Nat → Int32)) ⊕ Nat) :=
  if (nI n) ≤ x4 then some (.inl (x3, kl, qv)) else kv_L x4 n (kv_T x4.toNatClampNeg (fun k_59 => if (qp k_59) = p0 then if (qv k_59) = x2 then if (ql k_59) < dy then k_41 x2 x3 (x4 + 1) kl qv else kv_T (x2 + 1) (fun y_102 => kv_T (upd qv k_59 y_102) (fun g_102 => k_41 x2 (x3 + 1) (x4 + 1) kl g_102)) else k_41 x2 x3 (x4 + 1) kl qv else k_41 x2 x3 (x4 + 1) kl qv))
def pf_X2_release_41 (dy : Int32) (n : Nat) (qp : Nat → Int32) (ql : Nat → Int32) (p0 : Int32)  : Nat → Int32 → Int32 → Int32 → (Nat → Int32) → (Nat → Int32) → Option ((Int32 × (Nat → Int32) × (Nat → Int32)) ⊕ Nat)
  | 0, _, _, _, _, _ => none
  | nn + 1, x2, x3, x4, kl, qv => pf_X2_release_41b dy n qp ql p0  (pf_X2_release_41 dy n qp ql p0  nn) x2 x3 x4 kl qv
def pf_X2_release (dy : Int32) (n : Nat) (qp : Nat → Int32) (ql : Nat → Int32) (p0 : Int32) (kl : Nat → Int32) (qv : Nat → Int32) : Option ((Int32 × (Nat → Int32) × (Nat → Int32)) ⊕ Nat) :=
  kv_x0 (pf_X2_requireProduct p0) (kv_G p0 4 (kv_T (kl p0.toNatClampNeg) (fun y_9 => if y_9 < 9 then kv_G p0 4 (kv_T (upd kl p0.toNatClampNeg (y_9 + 1)) (fun g_35 => pf_X2_release_41 dy n qp ql p0 kv_F y_9 0 0 g_35 qv)) else some (.inr 3))))
abbrev rmX2_release : Room := { frames := 7, cells := 2, slots := 12, locals := 102 }
set_option maxHeartbeats 4000000 in
set_option maxRecDepth 100000 in
theorem c_X2_release (l : Launch) (hl9 : l.stackTraces = false) (D : va_G) (ci ad : Nat → Nat) (kc : Nat → Int32) (kh : Nat → Int32) (ks : Nat → Int32) (fo : Nat → Nat → Int32) (kl : Nat → Int32) (kp : Nat → Int32) (dy : Int32) (mo : Int32) (n : Nat) (pa : Nat → Nat) (aE : Nat) (qp : Nat → Int32) (qm : Nat → Int32) (ql : Nat → Int32) (qv : Nat → Int32) (qc : Nat → Int32) (qe : Nat → Int32) (mt : Nat → Int32) (mv : Nat → Int32) (sw : Nat → Int32) (hv : Int32) (tk : Nat → Int32) (tn : Nat → Int32) (sc : Nat → Int32) (p0 : Int32)  (hRn : pf_X2_release dy n qp ql p0 kl qv ≠ none) (sz : Nat) : vx_Met l yX2_release wsX2_release rmX2_release (va_Pc [.ref (ad 0), .int p0] (kv_preX D ci (kv_kw ci ad kc kh ks fo kl kp dy mo n pa aE qp qm ql qv qc qe mt mv sw hv tk tn sc) sz))  (va_Qi (fun (r : Int32) (u : (Nat → Int32) × (Nat → Int32)) => pf_X2_release dy n qp ql p0 kl qv = some (.inl (r, u))) (fun u t => kv_post D (kv_kw ci ad kc kh ks fo kl kp dy mo n pa aE qp qm ql qv qc qe mt mv sw hv tk tn sc) sz (kv_kw ci ad kc kh ks fo u.1 kp dy mo n pa aE qp qm ql u.2 qc qe mt mv sw hv tk tn sc) t) (va_A (kv_kw ci ad kc kh ks fo kl kp dy mo n pa aE qp qm ql qv qc qe mt mv sw hv tk tn sc) sz)) (vx_X (fun u : Nat => pf_X2_release dy n qp ql p0 kl qv = some (.inr u)) (fun E u t => E = kv_ex u ∧ kv_post D (kv_kw ci ad kc kh ks fo kl kp dy mo n pa aE qp qm ql qv qc qe mt mv sw hv tk tn sc) sz (kv_kw ci ad kc kh ks fo kl kp dy mo n pa aE qp qm ql qv qc qe mt mv sw hv tk tn sc) t) (va_A (kv_kw ci ad kc kh ks fo kl kp dy mo n pa aE qp qm ql qv qc qe mt mv sw hv tk tn sc) sz)) 2 12 (va_A (kv_kw ci ad kc kh ks fo kl kp dy mo n pa aE qp qm ql qv qc qe mt mv sw hv tk tn sc) sz) := by
  refine vx_ofW (cc := cX2_release) (maxL := 6) (ret := (some .int)) (by decide) rfl ?_
  intro p en s m args below meth c s₁ B hml hex hv
  obtain ⟨hv0, ⟨hsz, hP, hK, hD0⟩, hT⟩ := hv
  have hx := B.exec
  have hb := B.bytes
  have hr := B.returns
  have hts := atoms_spec (ws := wsX2_release) B.pre
  have hown : s.vm.findClass RX2 = some m.cls := findClass_of_methodNamed B.named
  have hlocks := B.notSynchronized
  subst hsz
  have hD := hD0.self (sz := s.heap.size)
  generalize hAe : va_A (kv_kw ci ad kc kh ks fo kl kp dy mo n pa aE qp qm ql qv qc qe mt mv sw hv tk tn sc) s.heap.size = A at hD hT ⊢
  have hA : ∀ q : Nat, s.heap.size ≤ q → A q := fun q h => by rw [← hAe]; exact Or.inr h
  have hS : va_S A s.heap s.heap [] := va_S.rf
  have hP : va_P D vwCl (kv_kw ci ad kc kh ks fo kl kp dy mo n pa aE qp qm ql qv qc qe mt mv sw hv tk tn sc) s.heap := hP
  have hinRX2 : ∀ w ∈ u_ws RX2 TX2 9, w ∈ wsX2_release := by decide +kernel
  have hinRX1 : ∀ w ∈ u_ws RX1 TX1 6, w ∈ wsX2_release := by decide +kernel
  generalize hRd : pf_X2_release dy n qp ql p0 kl qv = Rz at hRn
  have hRz := hRn
  refine kv_Q (fun Q hQ => ?_)
  refine W.eq (show entryFrame m args 6 = _ from by rw [hv0, lg_entry_eq]) ?_
  have hl := lv_entry ([.ref (ad 0), .int p0]) (n := 6) (Nat.le_of_ble_eq_true rfl)
  generalize (lg_sl ([.ref (ad 0), .int p0]) ++ List.replicate (6 - (lg_sl ([.ref (ad 0), .int p0])).length) Slot.unset).toArray = ls at hl ⊢
  have hl : lv_has ls 6 [(0, .ref (ad 0)), (1, .int p0)] := hl
  have e : Rz = pf_X2_release dy n qp ql p0 kl qv := hRd.symm
  rw [pf_X2_release] at e
  have hb_41 : ∀ (n_41 : Nat), ∀ (x2 : Int32) (x3 : Int32) (x4 : Int32) (kl : Nat → Int32) (qv : Nat → Int32) (H : Heap) (locs : List Loc) (ls : Array Slot), va_P D vwCl (kv_kw ci ad kc kh ks fo kl kp dy mo n pa aE qp qm ql qv qc qe mt mv sw hv tk tn sc) H → va_D A (kv_kw ci ad kc kh ks fo kl kp dy mo n pa aE qp qm ql qv qc qe mt mv sw hv tk tn sc) → va_S A s.heap H locs → lv_has ls 6 [(0, .ref (ad 0)), (1, .int p0), (2, .int x2), (3, .int x3), (4, .int x4)] → Rz = pf_X2_release_41 dy n qp ql p0  n_41 x2 x3 x4 kl qv → W p l en rmX2_release s m args below meth c H locs 1 6 Q (F0 m 41 ls []) := by
    intro n_41
    induction n_41 with
    | zero =>
      intro x2 x3 x4 kl qv H locs ls  _ _ _ _ e
      exact absurd e hRz
    | succ n_41 ih_41 =>
      intro x2 x3 x4 kl qv H locs ls  hP hD hS hl e
      rw [pf_X2_release_41, pf_X2_release_41b] at e
      refine lv_iload hx hb dX2_release_41 (lv_at hl 4 rfl) ?_
      refine lv_aload_n hx hb dX2_release_43 rfl (lv_at hl 0 rfl) ?_
      refine va_get (D := D) (ci := 3) (v := .ref (ad 7)) (C := RX2) (T := TX2) (N := 9) hx hb hts hinRX2 hown hK hP 0 rfl rfl 6 (by decide) (hts (.fieldLink RX2 33 "LicenceKeeper" "held" "Ljava/util/ArrayList;") (by decide +kernel)) (fun _ h9 => h9) rfl dX2_release_44 ?_
      refine kv_calli (va_runV (As := []) (rest := [.int x4]) ⟨hx, hb, hml, hown, hts⟩ (c_K_size l D ci ad kc kh ks fo kl kp dy mo n pa aE qp qm ql qv qc qe mt mv sw hv tk tn sc H.size) (cwV 0 hts gX2_release_Jx4a65c_size_8abf5 rfl rfl rfl (by decide +kernel) ⟨Nat.le_of_ble_eq_true rfl, Nat.le_of_ble_eq_true rfl⟩) (kv_preV hK hP hD (r := (RJx4a65c, TJx4a65c, 3)) (q0 := 7) (k := 0) rfl rfl rfl) rfl rfl hl.1 rfl (lv_room (Nat.le_of_ble_eq_true rfl)) dX2_release_47 ⟨Nat.le_of_ble_eq_true rfl, Nat.le_of_ble_eq_true rfl⟩) hD hS hA (fun r_47 u_47 H locs hw_47 hP hD hS => ?_)
      subst hw_47
      refine lv_icmp_ge (tgt := 114) hx hb dX2_release_50 (by decide) (fun c_50 => ?_) (fun c_50 => ?_)
      · have e := e.trans (if_pos c_50)
        refine lv_iload_n hx hb dX2_release_114 rfl (lv_at hl 3 rfl) ?_
        rw [hQ]
        refine W.widen (k := 2) (n := 12) (Nat.le_of_ble_eq_true rfl) (Nat.le_of_ble_eq_true rfl) ?_
        refine vx_ret ?_
        exact W.iret (v := x3) hx hb hr (fun t ht hW => ⟨⟨x3, (kl, qv), rfl, e, ⟨by rw [ht]; exact hP, by rw [hAe]; exact hD⟩⟩, hS.F ht⟩) hS.2.2 dX2_release_115
      · have e := e.trans (if_neg c_50)
        refine lv_aload_n hx hb dX2_release_53 rfl (lv_at hl 0 rfl) ?_
        refine va_get (D := D) (ci := 3) (v := .ref (ad 7)) (C := RX2) (T := TX2) (N := 9) hx hb hts hinRX2 hown hK hP 0 rfl rfl 6 (by decide) (hts (.fieldLink RX2 33 "LicenceKeeper" "held" "Ljava/util/ArrayList;") (by decide +kernel)) (fun _ h9 => h9) rfl dX2_release_54 ?_
        refine lv_iload hx hb dX2_release_57 (lv_at hl 4 rfl) ?_
        obtain ⟨hi_59, hn_59, e⟩ := kv_L_e e hRz
        refine kv_callq (pa := pa) (n := n) (va_runV (As := [.int x4]) (rest := []) ⟨hx, hb, hml, hown, hts⟩ (c_K_get l D ci ad kc kh ks fo kl kp dy mo n pa aE qp qm ql qv qc qe mt mv sw hv tk tn sc x4 hi_59 hn_59 H.size) (cwV 1 hts gX2_release_Jx4a65c_get_915e3 rfl rfl rfl (by decide +kernel) ⟨Nat.le_of_ble_eq_true rfl, Nat.le_of_ble_eq_true rfl⟩) (kv_preV hK hP hD (r := (RJx4a65c, TJx4a65c, 3)) (q0 := 7) (k := 0) rfl rfl rfl) rfl rfl hl.1 rfl (lv_room (Nat.le_of_ble_eq_true rfl)) dX2_release_59 ⟨Nat.le_of_ble_eq_true rfl, Nat.le_of_ble_eq_true rfl⟩) hD hS hA (fun k_59 H locs hk_59 ek_59 hP hD hS => ?_)
        have e := kv_T_e e ek_59
        refine va_castS hx hb hown (hts (.classLink RX2 84 "LicenceKeeper$Right") (by decide +kernel)) (hK.1 2 _ rfl).2 (va_recv hK hP (ci := 2) (q0 := 24 + k_59) rfl (kv_rt hk_59)) dX2_release_62 ?_
        refine lv_astore (lv' := [(5, .ref (pa k_59)), (0, .ref (ad 0)), (1, .int p0), (2, .int x2), (3, .int x3), (4, .int x4)]) hx hb dX2_release_65 hl (by decide) rfl (fun ls hl => ?_)
        refine lv_aload hx hb dX2_release_67 (lv_at hl 0 rfl) ?_
        refine va_get (D := D) (ci := 2) (v := .int (qp k_59)) (C := RX1) (T := TX1) (N := 6) hx hb hts hinRX1 hown hK hP (24 + k_59) (kv_rt hk_59) rfl 0 (by decide) (hts (.fieldLink RX2 86 "LicenceKeeper$Right" "product" "I") (by decide +kernel)) (fun _ h9 => h9) rfl dX2_release_69 ?_
        refine lv_iload_n hx hb dX2_release_72 rfl (lv_at hl 2 rfl) ?_
        refine lv_icmp_ne (tgt := 108) hx hb dX2_release_73 (by decide) (fun c_73 => ?_) (fun c_73 => ?_)
        · have e := e.trans (if_neg c_73)
          refine lv_iinc (v := x4 + 1) (lv' := [(4, .int (x4 + 1)), (5, .ref (pa k_59)), (0, .ref (ad 0)), (1, .int p0), (2, .int x2), (3, .int x3)]) hx hb dX2_release_108 hl (k := 5) rfl rfl (by decide) rfl (fun ls hl => ?_)
          refine lv_goto (tgt := 41) hx hb dX2_release_111 (by decide) ?_
          exact ih_41 x2 x3 (x4 + 1) kl qv _ _ _  hP hD hS (lv_sub hl [2, 3, 4, 5, 0] rfl) e
        · have e := e.trans (if_pos c_73)
          refine lv_aload hx hb dX2_release_76 (lv_at hl 0 rfl) ?_
          refine va_get (D := D) (ci := 2) (v := .int (qv k_59)) (C := RX1) (T := TX1) (N := 6) hx hb hts hinRX1 hown hK hP (24 + k_59) (kv_rt hk_59) rfl 3 (by decide) (hts (.fieldLink RX2 89 "LicenceKeeper$Right" "version" "I") (by decide +kernel)) (fun _ h9 => h9) rfl dX2_release_78 ?_
          refine lv_iload_n hx hb dX2_release_81 rfl (lv_at hl 3 rfl) ?_
          refine lv_icmp_ne (tgt := 108) hx hb dX2_release_82 (by decide) (fun c_82 => ?_) (fun c_82 => ?_)
          · have e := e.trans (if_neg c_82)
            refine lv_iinc (v := x4 + 1) (lv' := [(4, .int (x4 + 1)), (5, .ref (pa k_59)), (0, .ref (ad 0)), (1, .int p0), (2, .int x2), (3, .int x3)]) hx hb dX2_release_108 hl (k := 5) rfl rfl (by decide) rfl (fun ls hl => ?_)
            refine lv_goto (tgt := 41) hx hb dX2_release_111 (by decide) ?_
            exact ih_41 x2 x3 (x4 + 1) kl qv _ _ _  hP hD hS (lv_sub hl [2, 3, 4, 5, 0] rfl) e
          · have e := e.trans (if_pos c_82)
            refine lv_aload hx hb dX2_release_85 (lv_at hl 0 rfl) ?_
            refine va_get (D := D) (ci := 2) (v := .int (ql k_59)) (C := RX1) (T := TX1) (N := 6) hx hb hts hinRX1 hown hK hP (24 + k_59) (kv_rt hk_59) rfl 2 (by decide) (hts (.fieldLink RX2 92 "LicenceKeeper$Right" "lastCareDay" "I") (by decide +kernel)) (fun _ h9 => h9) rfl dX2_release_87 ?_
            refine lv_aload_n hx hb dX2_release_90 rfl (lv_at hl 1 rfl) ?_
            refine va_get (D := D) (ci := 3) (v := .int dy) (C := RX2) (T := TX2) (N := 9) hx hb hts hinRX2 hown hK hP 0 rfl rfl 8 (by decide) (hts (.fieldLink RX2 44 "LicenceKeeper" "day" "I") (by decide +kernel)) (fun _ h9 => h9) rfl dX2_release_91 ?_
            refine lv_icmp_lt (tgt := 108) hx hb dX2_release_94 (by decide) (fun c_94 => ?_) (fun c_94 => ?_)
            · have e := e.trans (if_pos c_94)
              refine lv_iinc (v := x4 + 1) (lv' := [(4, .int (x4 + 1)), (5, .ref (pa k_59)), (0, .ref (ad 0)), (1, .int p0), (2, .int x2), (3, .int x3)]) hx hb dX2_release_108 hl (k := 5) rfl rfl (by decide) rfl (fun ls hl => ?_)
              refine lv_goto (tgt := 41) hx hb dX2_release_111 (by decide) ?_
              exact ih_41 x2 x3 (x4 + 1) kl qv _ _ _  hP hD hS (lv_sub hl [2, 3, 4, 5, 0] rfl) e
            · have e := e.trans (if_neg c_94)
              refine lv_aload hx hb dX2_release_97 (lv_at hl 0 rfl) ?_
              refine lv_iload_n hx hb dX2_release_99 rfl (lv_at hl 3 rfl) ?_
              refine lv_iconst (v := 1) hx hb dX2_release_100 (by decide) ?_
              refine lv_iadd hx hb dX2_release_101 ?_
              refine lv_topi (fun y_102 ey_102 => ?_)
              have e := kv_T_e e ey_102
              refine va_put (D := D) (ci := 2) (v := .int y_102) (ty := .int) (C := RX1) (T := TX1) (N := 6) hx hb hts hinRX1 tyX1 tyX1_ok nmX1 hown hK hP hD hS (24 + k_59) (kv_rt hk_59) rfl 3 (by decide) (hts (.fieldLink RX2 89 "LicenceKeeper$Right" "version" "I") (by decide +kernel)) (fun _ h9 => h9) rfl (by decide +kernel) rfl rfl (Nat.le_of_ble_eq_true rfl) dX2_release_102 (fun H locs hP hD hS => ?_)
              have hP : va_P D vwCl (kv_kw ci ad kc kh ks fo kl kp dy mo n pa aE qp qm ql (upd qv k_59 y_102) qc qe mt mv sw hv tk tn sc) H := by rw [← kv_rset_v hk_59 y_102]; exact hP
              have hD : va_D A (kv_kw ci ad kc kh ks fo kl kp dy mo n pa aE qp qm ql (upd qv k_59 y_102) qc qe mt mv sw hv tk tn sc) := by rw [← kv_rset_v hk_59 y_102]; exact hD
              obtain ⟨g_102, eg_102⟩ : ∃ g, g = upd qv k_59 y_102 := ⟨_, rfl⟩
              rw [← eg_102] at hP hD
              have e := kv_T_e e eg_102
              refine lv_iinc (v := x3 + 1) (lv' := [(3, .int (x3 + 1)), (5, .ref (pa k_59)), (0, .ref (ad 0)), (1, .int p0), (2, .int x2), (4, .int x4)]) hx hb dX2_release_105 hl (k := 4) rfl rfl (by decide) rfl (fun ls hl => ?_)
              refine lv_iinc (v := x4 + 1) (lv' := [(4, .int (x4 + 1)), (3, .int (x3 + 1)), (5, .ref (pa k_59)), (0, .ref (ad 0)), (1, .int p0), (2, .int x2)]) hx hb dX2_release_108 hl (k := 5) rfl rfl (by decide) rfl (fun ls hl => ?_)
              refine lv_goto (tgt := 41) hx hb dX2_release_111 (by decide) ?_
              exact ih_41 x2 (x3 + 1) (x4 + 1) kl g_102 _ _ _  hP hD hS (lv_sub hl [3, 4, 5, 1, 0] rfl) e
  refine lv_iload_n hx hb dX2_release_0 rfl (lv_at hl 1 rfl) ?_
  refine kv_xcallv (vx_runS (As := [.int p0]) (rest := []) ⟨hx, hb, hml, hown, hts⟩ (c_X2_requireProduct l hl9 D ci ad kc kh ks fo kl kp dy mo n pa aE qp qm ql qv qc qe mt mv sw hv tk tn sc p0 (kv_x0_n e hRz) s.heap.size) (va_cwS 1 hts gX2_release_X2_requireProduct rfl rfl rfl (by decide +kernel) ⟨Nat.le_of_ble_eq_true rfl, Nat.le_of_ble_eq_true rfl⟩) (kv_preSX hK hP hD hT hS hA) rfl rfl hl.1 rfl (lv_room (Nat.le_of_ble_eq_true rfl)) dX2_release_1 ⟨Nat.le_of_ble_eq_true rfl, Nat.le_of_ble_eq_true rfl⟩) hD hS hA (fun ce q9 u9 H locs hw9 hP hD hS h1 h2 h3 => ?_) (fun u_1 H locs hw_1 hP hD hS => ?_)
  · rw [hQ]
    exact vx_out (fun x h => (hex x h).elim) hlocks h1 h2 h3 (fun t ht hvm => ⟨u9, kv_x0_t e hw9, ⟨rfl, by rw [ht]; exact hP, by rw [hAe]; exact hD⟩, hS.F ht⟩) hS.2.2 (Nat.le_of_ble_eq_true rfl) (Nat.le_of_ble_eq_true rfl)
  have e := kv_x0_e e hw_1
  refine lv_aload_n hx hb dX2_release_4 rfl (lv_at hl 0 rfl) ?_
  refine va_get (D := D) (ci := 3) (v := .ref (ad 5)) (C := RX2) (T := TX2) (N := 9) hx hb hts hinRX2 hown hK hP 0 rfl rfl 4 (by decide) (hts (.fieldLink RX2 24 "LicenceKeeper" "latestVersions" "[I") (by decide +kernel)) (fun _ h9 => h9) rfl dX2_release_5 ?_
  refine lv_iload_n hx hb dX2_release_8 rfl (lv_at hl 1 rfl) ?_
  obtain ⟨hi_9, e⟩ := kv_G_e e hRz
  refine kv_iald hx hb hK hP 5 0 hi_9 dX2_release_9 rfl rfl (fun y_9 ey_9 => ?_)
  have e := kv_T_e e ey_9
  refine lv_istore_n (lv' := [(2, .int y_9), (0, .ref (ad 0)), (1, .int p0)]) hx hb dX2_release_10 rfl hl (by decide) rfl (fun ls hl => ?_)
  refine lv_iload_n hx hb dX2_release_11 rfl (lv_at hl 0 rfl) ?_
  refine lv_bipush (v := 9) hx hb dX2_release_12 (by decide) ?_
  refine lv_icmp_lt (tgt := 27) hx hb dX2_release_14 (by decide) (fun c_14 => ?_) (fun c_14 => ?_)
  · have e := e.trans (if_pos c_14)
    refine lv_aload_n hx hb dX2_release_27 rfl (lv_at hl 1 rfl) ?_
    refine va_get (D := D) (ci := 3) (v := .ref (ad 5)) (C := RX2) (T := TX2) (N := 9) hx hb hts hinRX2 hown hK hP 0 rfl rfl 4 (by decide) (hts (.fieldLink RX2 24 "LicenceKeeper" "latestVersions" "[I") (by decide +kernel)) (fun _ h9 => h9) rfl dX2_release_28 ?_
    refine lv_iload_n hx hb dX2_release_31 rfl (lv_at hl 2 rfl) ?_
    refine lv_iload_n hx hb dX2_release_32 rfl (lv_at hl 0 rfl) ?_
    refine lv_iconst (v := 1) hx hb dX2_release_33 (by decide) ?_
    refine lv_iadd hx hb dX2_release_34 ?_
    obtain ⟨hi_35, e⟩ := kv_G_e e hRz
    refine kv_iast hx hb hK hP hD hS 5 0 (fun g_35 => (kv_kw ci ad kc kh ks fo g_35 kp dy mo n pa aE qp qm ql qv qc qe mt mv sw hv tk tn sc)) hi_35 dX2_release_35 rfl rfl (fun _ => rfl) (fun g_35 H locs eg_35 hP hD hS => ?_)
    have e := kv_T_e e eg_35
    refine lv_iconst (v := 0) hx hb dX2_release_36 (by decide) ?_
    refine lv_istore_n (lv' := [(3, .int 0), (2, .int y_9), (0, .ref (ad 0)), (1, .int p0)]) hx hb dX2_release_37 rfl hl (by decide) rfl (fun ls hl => ?_)
    refine lv_iconst (v := 0) hx hb dX2_release_38 (by decide) ?_
    refine lv_istore (lv' := [(4, .int 0), (3, .int 0), (2, .int y_9), (0, .ref (ad 0)), (1, .int p0)]) hx hb dX2_release_39 hl (by decide) rfl (fun ls hl => ?_)
    exact hb_41 kv_F y_9 0 0 g_35 qv _ _ _  hP hD hS (lv_sub hl [3, 4, 2, 1, 0] rfl) e
  · have e := e.trans (if_neg c_14)
    rw [hQ]
    obtain ⟨sa9, hs9⟩ := hT.2.2.1 (71, "the product has its last version") (by decide +kernel)
    have hg9 : ∀ w ∈ (vx_atS RX2 73 "java/lang/IllegalStateException" ["java/lang/RuntimeException", "java/lang/Exception"]).filter goodWord, w ∈ wsX2_release := by decide +kernel
    refine vx_throwS hx hb hl9 (own := RX2) (cls := "java/lang/IllegalStateException") (text := "the product has its last version") (names := ["java/lang/RuntimeException", "java/lang/Exception"]) (ik := 69) (is := 71) (ic := 73) (A := A) hown (by decide +kernel) (by decide +kernel) (hts (.classLink RX2 69 "java/lang/IllegalStateException") (by decide +kernel)) (hts (.initialized "java/lang/IllegalStateException") (by decide +kernel)) hs9 (vx_hat (B := [.castable "java/lang/IllegalStateException" "java/lang/IllegalStateException", .declares (Bundle.initS "java/lang/RuntimeException"), .declares (Bundle.initS "java/lang/Exception"), .declares (Bundle.initS Bundle.tN)]) (fun w hw => hts w (hg9 w hw)) (by decide +kernel) (vx_c (va_Nw.use rfl (hT.2.2.2.1 3)) (vx_c (va_Nw.use rfl (hT.2.2.2.2 "java/lang/RuntimeException" (by decide +kernel))) (vx_c (va_Nw.use rfl (hT.2.2.2.2 "java/lang/Exception" (by decide +kernel))) (vx_c (va_Nw.use rfl (hT.2.2.2.2 Bundle.tN (by decide +kernel))) vx_n))))) (by decide +kernel) hT.1 hT.2.1 hS (hl.1.trans hml.symm) dX2_release_17 dX2_release_20 dX2_release_21 dX2_release_23 dX2_release_26 (fun x h => (hex x h).elim) (Nat.le_of_ble_eq_true rfl) (Nat.le_of_ble_eq_true rfl) (Nat.le_of_ble_eq_true rfl) (Nat.le_of_ble_eq_true rfl) hlocks (fun t hvm h1 h2 => ?_) hS.2.2 (Nat.le_of_ble_eq_true rfl) (Nat.le_of_ble_eq_true rfl)
    obtain ⟨⟨a1, a2⟩, a3⟩ := kv_thrown hP hD hS h1 h2
    exact ⟨3, e, ⟨by decide +kernel, a1, by rw [hAe]; exact a2⟩, a3⟩

def pf_X2_lend (n : Nat) (p0 : Int32) (p1 : Int32) (qc : Nat → Int32) (qe : Nat → Int32) : Option ((Int32 × (Nat → Int32) × (Nat → Int32)) ⊕ Nat) :=
  kv_x1 (pf_X2_rightAt n p0) (fun k_2 => kv_x0 (pf_X2_requireRange p1 (-500) 500) (kv_x0 (pf_X2_requireCount n qc k_2 p1) (if 0 ≤ ((qe k_2) + p1) then kv_T ((qc k_2) - p1) (fun y_47 => kv_T (upd qc k_2 y_47) (fun g_47 => kv_T ((qe k_2) + p1) (fun y_57 => kv_T (upd qe k_2 y_57) (fun g_57 => some (.inl ((g_57 k_2), g_47, g_57)))))) else some (.inr 3))))
abbrev rmX2_lend : Room := { frames := 7, cells := 4, slots := 24, locals := 104 }
set_option maxHeartbeats 4000000 in
set_option maxRecDepth 100000 in
theorem c_X2_lend (l : Launch) (hl9 : l.stackTraces = false) (D : va_G) (ci ad : Nat → Nat) (kc : Nat → Int32) (kh : Nat → Int32) (ks : Nat → Int32) (fo : Nat → Nat → Int32) (kl : Nat → Int32) (kp : Nat → Int32) (dy : Int32) (mo : Int32) (n : Nat) (pa : Nat → Nat) (aE : Nat) (qp : Nat → Int32) (qm : Nat → Int32) (ql : Nat → Int32) (qv : Nat → Int32) (qc : Nat → Int32) (qe : Nat → Int32) (mt : Nat → Int32) (mv : Nat → Int32) (sw : Nat → Int32) (hv : Int32) (tk : Nat → Int32) (tn : Nat → Int32) (sc : Nat → Int32) (p0 : Int32) (p1 : Int32)  (hRn : pf_X2_lend n p0 p1 qc qe ≠ none) (sz : Nat) : vx_Met l yX2_lend wsX2_lend rmX2_lend (va_Pc [.ref (ad 0), .int p0, .int p1] (kv_preX D ci (kv_kw ci ad kc kh ks fo kl kp dy mo n pa aE qp qm ql qv qc qe mt mv sw hv tk tn sc) sz))  (va_Qi (fun (r : Int32) (u : (Nat → Int32) × (Nat → Int32)) => pf_X2_lend n p0 p1 qc qe = some (.inl (r, u))) (fun u t => kv_post D (kv_kw ci ad kc kh ks fo kl kp dy mo n pa aE qp qm ql qv qc qe mt mv sw hv tk tn sc) sz (kv_kw ci ad kc kh ks fo kl kp dy mo n pa aE qp qm ql qv u.1 u.2 mt mv sw hv tk tn sc) t) (va_A (kv_kw ci ad kc kh ks fo kl kp dy mo n pa aE qp qm ql qv qc qe mt mv sw hv tk tn sc) sz)) (vx_X (fun u : Nat => pf_X2_lend n p0 p1 qc qe = some (.inr u)) (fun E u t => E = kv_ex u ∧ kv_post D (kv_kw ci ad kc kh ks fo kl kp dy mo n pa aE qp qm ql qv qc qe mt mv sw hv tk tn sc) sz (kv_kw ci ad kc kh ks fo kl kp dy mo n pa aE qp qm ql qv qc qe mt mv sw hv tk tn sc) t) (va_A (kv_kw ci ad kc kh ks fo kl kp dy mo n pa aE qp qm ql qv qc qe mt mv sw hv tk tn sc) sz)) 4 24 (va_A (kv_kw ci ad kc kh ks fo kl kp dy mo n pa aE qp qm ql qv qc qe mt mv sw hv tk tn sc) sz) := by
  refine vx_ofW (cc := cX2_lend) (maxL := 4) (ret := (some .int)) (by decide) rfl ?_
  intro p en s m args below meth c s₁ B hml hex hv
  obtain ⟨hv0, ⟨hsz, hP, hK, hD0⟩, hT⟩ := hv
  have hx := B.exec
  have hb := B.bytes
  have hr := B.returns
  have hts := atoms_spec (ws := wsX2_lend) B.pre
  have hown : s.vm.findClass RX2 = some m.cls := findClass_of_methodNamed B.named
  have hlocks := B.notSynchronized
  subst hsz
  have hD := hD0.self (sz := s.heap.size)
  generalize hAe : va_A (kv_kw ci ad kc kh ks fo kl kp dy mo n pa aE qp qm ql qv qc qe mt mv sw hv tk tn sc) s.heap.size = A at hD hT ⊢
  have hA : ∀ q : Nat, s.heap.size ≤ q → A q := fun q h => by rw [← hAe]; exact Or.inr h
  have hS : va_S A s.heap s.heap [] := va_S.rf
  have hP : va_P D vwCl (kv_kw ci ad kc kh ks fo kl kp dy mo n pa aE qp qm ql qv qc qe mt mv sw hv tk tn sc) s.heap := hP
  have hinRX1 : ∀ w ∈ u_ws RX1 TX1 6, w ∈ wsX2_lend := by decide +kernel
  generalize hRd : pf_X2_lend n p0 p1 qc qe = Rz at hRn
  have hRz := hRn
  refine kv_Q (fun Q hQ => ?_)
  refine W.eq (show entryFrame m args 4 = _ from by rw [hv0, lg_entry_eq]) ?_
  have hl := lv_entry ([.ref (ad 0), .int p0, .int p1]) (n := 4) (Nat.le_of_ble_eq_true rfl)
  generalize (lg_sl ([.ref (ad 0), .int p0, .int p1]) ++ List.replicate (4 - (lg_sl ([.ref (ad 0), .int p0, .int p1])).length) Slot.unset).toArray = ls at hl ⊢
  have hl : lv_has ls 4 [(0, .ref (ad 0)), (1, .int p0), (2, .int p1)] := hl
  have e : Rz = pf_X2_lend n p0 p1 qc qe := hRd.symm
  rw [pf_X2_lend] at e
  refine lv_aload_n hx hb dX2_lend_0 rfl (lv_at hl 0 rfl) ?_
  refine lv_iload_n hx hb dX2_lend_1 rfl (lv_at hl 1 rfl) ?_
  refine kv_xcallq (pa := pa) (n := n) (vx_runV (As := [.int p0]) (rest := []) ⟨hx, hb, hml, hown, hts⟩ (c_X2_rightAt l hl9 D ci ad kc kh ks fo kl kp dy mo n pa aE qp qm ql qv qc qe mt mv sw hv tk tn sc p0 (kv_x1_n e hRz) s.heap.size) (cwV 1 hts gX2_lend_X2_rightAt rfl rfl rfl (by decide +kernel) ⟨Nat.le_of_ble_eq_true rfl, Nat.le_of_ble_eq_true rfl⟩) (kv_preVX hK hP hD hT hS hA (r := (RX2, TX2, 9)) (q0 := 0) (k := 3) rfl rfl rfl) rfl rfl hl.1 rfl (lv_room (Nat.le_of_ble_eq_true rfl)) dX2_lend_2 ⟨Nat.le_of_ble_eq_true rfl, Nat.le_of_ble_eq_true rfl⟩) hD hS hA (fun ce q9 u9 H locs hw9 hP hD hS h1 h2 h3 => ?_) (fun k_2 H locs hk_2 hw_2 hP hD hS => ?_)
  · rw [hQ]
    exact vx_out (fun x h => (hex x h).elim) hlocks h1 h2 h3 (fun t ht hvm => ⟨u9, kv_x1_t e hw9, ⟨rfl, by rw [ht]; exact hP, by rw [hAe]; exact hD⟩, hS.F ht⟩) hS.2.2 (Nat.le_of_ble_eq_true rfl) (Nat.le_of_ble_eq_true rfl)
  have e := kv_x1_e e hw_2
  refine lv_astore_n (lv' := [(3, .ref (pa k_2)), (0, .ref (ad 0)), (1, .int p0), (2, .int p1)]) hx hb dX2_lend_5 rfl hl (by decide) rfl (fun ls hl => ?_)
  refine lv_iload_n hx hb dX2_lend_6 rfl (lv_at hl 3 rfl) ?_
  refine lv_sipush (v := (-500)) hx hb dX2_lend_7 (by decide) ?_
  refine lv_sipush (v := 500) hx hb dX2_lend_10 (by decide) ?_
  refine kv_xcallv (vx_runS (As := [.int p1, .int (-500), .int 500]) (rest := []) ⟨hx, hb, hml, hown, hts⟩ (c_X2_requireRange l hl9 D ci ad kc kh ks fo kl kp dy mo n pa aE qp qm ql qv qc qe mt mv sw hv tk tn sc p1 (-500) 500 (kv_x0_n e hRz) H.size) (va_cwS 3 hts gX2_lend_X2_requireRange rfl rfl rfl (by decide +kernel) ⟨Nat.le_of_ble_eq_true rfl, Nat.le_of_ble_eq_true rfl⟩) (kv_preSX hK hP hD hT hS hA) rfl rfl hl.1 rfl (lv_room (Nat.le_of_ble_eq_true rfl)) dX2_lend_13 ⟨Nat.le_of_ble_eq_true rfl, Nat.le_of_ble_eq_true rfl⟩) hD hS hA (fun ce q9 u9 H locs hw9 hP hD hS h1 h2 h3 => ?_) (fun u_13 H locs hw_13 hP hD hS => ?_)
  · rw [hQ]
    exact vx_out (fun x h => (hex x h).elim) hlocks h1 h2 h3 (fun t ht hvm => ⟨u9, kv_x0_t e hw9, ⟨rfl, by rw [ht]; exact hP, by rw [hAe]; exact hD⟩, hS.F ht⟩) hS.2.2 (Nat.le_of_ble_eq_true rfl) (Nat.le_of_ble_eq_true rfl)
  have e := kv_x0_e e hw_13
  refine lv_aload_n hx hb dX2_lend_16 rfl (lv_at hl 0 rfl) ?_
  refine lv_iload_n hx hb dX2_lend_17 rfl (lv_at hl 3 rfl) ?_
  refine kv_xcallv (vx_runS (As := [.ref (pa k_2), .int p1]) (rest := []) ⟨hx, hb, hml, hown, hts⟩ (c_X2_requireCount l hl9 D ci ad kc kh ks fo kl kp dy mo n pa aE qp qm ql qv qc qe mt mv sw hv tk tn sc k_2 p1 hk_2 (kv_x0_n e hRz) H.size) (va_cwS 2 hts gX2_lend_X2_requireCount rfl rfl rfl (by decide +kernel) ⟨Nat.le_of_ble_eq_true rfl, Nat.le_of_ble_eq_true rfl⟩) (kv_preSX hK hP hD hT hS hA) rfl rfl hl.1 rfl (lv_room (Nat.le_of_ble_eq_true rfl)) dX2_lend_18 ⟨Nat.le_of_ble_eq_true rfl, Nat.le_of_ble_eq_true rfl⟩) hD hS hA (fun ce q9 u9 H locs hw9 hP hD hS h1 h2 h3 => ?_) (fun u_18 H locs hw_18 hP hD hS => ?_)
  · rw [hQ]
    exact vx_out (fun x h => (hex x h).elim) hlocks h1 h2 h3 (fun t ht hvm => ⟨u9, kv_x0_t e hw9, ⟨rfl, by rw [ht]; exact hP, by rw [hAe]; exact hD⟩, hS.F ht⟩) hS.2.2 (Nat.le_of_ble_eq_true rfl) (Nat.le_of_ble_eq_true rfl)
  have e := kv_x0_e e hw_18
  refine lv_aload_n hx hb dX2_lend_21 rfl (lv_at hl 0 rfl) ?_
  refine va_get (D := D) (ci := 2) (v := .int (qe k_2)) (C := RX1) (T := TX1) (N := 6) hx hb hts hinRX1 hown hK hP (24 + k_2) (kv_rt hk_2) rfl 5 (by decide) (hts (.fieldLink RX2 118 "LicenceKeeper$Right" "lent" "I") (by decide +kernel)) (fun _ h9 => h9) rfl dX2_lend_22 ?_
  refine lv_iload_n hx hb dX2_lend_25 rfl (lv_at hl 3 rfl) ?_
  refine lv_iadd hx hb dX2_lend_26 ?_
  refine lv_if_ge (tgt := 40) hx hb dX2_lend_27 (by decide) (fun c_27 => ?_) (fun c_27 => ?_)
  · have e := e.trans (if_pos c_27)
    refine lv_aload_n hx hb dX2_lend_40 rfl (lv_at hl 0 rfl) ?_
    refine lv_dup hx hb dX2_lend_41 rfl ?_
    refine va_get (D := D) (ci := 2) (v := .int (qc k_2)) (C := RX1) (T := TX1) (N := 6) hx hb hts hinRX1 hown hK hP (24 + k_2) (kv_rt hk_2) rfl 4 (by decide) (hts (.fieldLink RX2 112 "LicenceKeeper$Right" "count" "I") (by decide +kernel)) (fun _ h9 => h9) rfl dX2_lend_42 ?_
    refine lv_iload_n hx hb dX2_lend_45 rfl (lv_at hl 3 rfl) ?_
    refine lv_isub hx hb dX2_lend_46 ?_
    refine lv_topi (fun y_47 ey_47 => ?_)
    have e := kv_T_e e ey_47
    refine va_put (D := D) (ci := 2) (v := .int y_47) (ty := .int) (C := RX1) (T := TX1) (N := 6) hx hb hts hinRX1 tyX1 tyX1_ok nmX1 hown hK hP hD hS (24 + k_2) (kv_rt hk_2) rfl 4 (by decide) (hts (.fieldLink RX2 112 "LicenceKeeper$Right" "count" "I") (by decide +kernel)) (fun _ h9 => h9) rfl (by decide +kernel) rfl rfl (Nat.le_of_ble_eq_true rfl) dX2_lend_47 (fun H locs hP hD hS => ?_)
    have hP : va_P D vwCl (kv_kw ci ad kc kh ks fo kl kp dy mo n pa aE qp qm ql qv (upd qc k_2 y_47) qe mt mv sw hv tk tn sc) H := by rw [← kv_rset_c hk_2 y_47]; exact hP
    have hD : va_D A (kv_kw ci ad kc kh ks fo kl kp dy mo n pa aE qp qm ql qv (upd qc k_2 y_47) qe mt mv sw hv tk tn sc) := by rw [← kv_rset_c hk_2 y_47]; exact hD
    obtain ⟨g_47, eg_47⟩ : ∃ g, g = upd qc k_2 y_47 := ⟨_, rfl⟩
    rw [← eg_47] at hP hD
    have e := kv_T_e e eg_47
    refine lv_aload_n hx hb dX2_lend_50 rfl (lv_at hl 0 rfl) ?_
    refine lv_dup hx hb dX2_lend_51 rfl ?_
    refine va_get (D := D) (ci := 2) (v := .int (qe k_2)) (C := RX1) (T := TX1) (N := 6) hx hb hts hinRX1 hown hK hP (24 + k_2) (kv_rt hk_2) rfl 5 (by decide) (hts (.fieldLink RX2 118 "LicenceKeeper$Right" "lent" "I") (by decide +kernel)) (fun _ h9 => h9) rfl dX2_lend_52 ?_
    refine lv_iload_n hx hb dX2_lend_55 rfl (lv_at hl 3 rfl) ?_
    refine lv_iadd hx hb dX2_lend_56 ?_
    refine lv_topi (fun y_57 ey_57 => ?_)
    have e := kv_T_e e ey_57
    refine va_put (D := D) (ci := 2) (v := .int y_57) (ty := .int) (C := RX1) (T := TX1) (N := 6) hx hb hts hinRX1 tyX1 tyX1_ok nmX1 hown hK hP hD hS (24 + k_2) (kv_rt hk_2) rfl 5 (by decide) (hts (.fieldLink RX2 118 "LicenceKeeper$Right" "lent" "I") (by decide +kernel)) (fun _ h9 => h9) rfl (by decide +kernel) rfl rfl (Nat.le_of_ble_eq_true rfl) dX2_lend_57 (fun H locs hP hD hS => ?_)
    have hP : va_P D vwCl (kv_kw ci ad kc kh ks fo kl kp dy mo n pa aE qp qm ql qv g_47 (upd qe k_2 y_57) mt mv sw hv tk tn sc) H := by rw [← kv_rset_e hk_2 y_57]; exact hP
    have hD : va_D A (kv_kw ci ad kc kh ks fo kl kp dy mo n pa aE qp qm ql qv g_47 (upd qe k_2 y_57) mt mv sw hv tk tn sc) := by rw [← kv_rset_e hk_2 y_57]; exact hD
    obtain ⟨g_57, eg_57⟩ : ∃ g, g = upd qe k_2 y_57 := ⟨_, rfl⟩
    rw [← eg_57] at hP hD
    have e := kv_T_e e eg_57
    refine lv_aload_n hx hb dX2_lend_60 rfl (lv_at hl 0 rfl) ?_
    refine va_get (D := D) (ci := 2) (v := .int (g_57 k_2)) (C := RX1) (T := TX1) (N := 6) hx hb hts hinRX1 hown hK hP (24 + k_2) (kv_rt hk_2) rfl 5 (by decide) (hts (.fieldLink RX2 118 "LicenceKeeper$Right" "lent" "I") (by decide +kernel)) (fun _ h9 => h9) rfl dX2_lend_61 ?_
    rw [hQ]
    refine W.widen (k := 4) (n := 24) (Nat.le_of_ble_eq_true rfl) (Nat.le_of_ble_eq_true rfl) ?_
    refine vx_ret ?_
    exact W.iret (v := (g_57 k_2)) hx hb hr (fun t ht hW => ⟨⟨(g_57 k_2), (g_47, g_57), rfl, e, ⟨by rw [ht]; exact hP, by rw [hAe]; exact hD⟩⟩, hS.F ht⟩) hS.2.2 dX2_lend_64
  · have e := e.trans (if_neg c_27)
    rw [hQ]
    obtain ⟨sa9, hs9⟩ := hT.2.2.1 (121, "less is lent out than comes back") (by decide +kernel)
    have hg9 : ∀ w ∈ (vx_atS RX2 73 "java/lang/IllegalStateException" ["java/lang/RuntimeException", "java/lang/Exception"]).filter goodWord, w ∈ wsX2_lend := by decide +kernel
    refine vx_throwS hx hb hl9 (own := RX2) (cls := "java/lang/IllegalStateException") (text := "less is lent out than comes back") (names := ["java/lang/RuntimeException", "java/lang/Exception"]) (ik := 69) (is := 121) (ic := 73) (A := A) hown (by decide +kernel) (by decide +kernel) (hts (.classLink RX2 69 "java/lang/IllegalStateException") (by decide +kernel)) (hts (.initialized "java/lang/IllegalStateException") (by decide +kernel)) hs9 (vx_hat (B := [.castable "java/lang/IllegalStateException" "java/lang/IllegalStateException", .declares (Bundle.initS "java/lang/RuntimeException"), .declares (Bundle.initS "java/lang/Exception"), .declares (Bundle.initS Bundle.tN)]) (fun w hw => hts w (hg9 w hw)) (by decide +kernel) (vx_c (va_Nw.use rfl (hT.2.2.2.1 3)) (vx_c (va_Nw.use rfl (hT.2.2.2.2 "java/lang/RuntimeException" (by decide +kernel))) (vx_c (va_Nw.use rfl (hT.2.2.2.2 "java/lang/Exception" (by decide +kernel))) (vx_c (va_Nw.use rfl (hT.2.2.2.2 Bundle.tN (by decide +kernel))) vx_n))))) (by decide +kernel) hT.1 hT.2.1 hS (hl.1.trans hml.symm) dX2_lend_30 dX2_lend_33 dX2_lend_34 dX2_lend_36 dX2_lend_39 (fun x h => (hex x h).elim) (Nat.le_of_ble_eq_true rfl) (Nat.le_of_ble_eq_true rfl) (Nat.le_of_ble_eq_true rfl) (Nat.le_of_ble_eq_true rfl) hlocks (fun t hvm h1 h2 => ?_) hS.2.2 (Nat.le_of_ble_eq_true rfl) (Nat.le_of_ble_eq_true rfl)
    obtain ⟨⟨a1, a2⟩, a3⟩ := kv_thrown hP hD hS h1 h2
    exact ⟨3, e, ⟨by decide +kernel, a1, by rw [hAe]; exact a2⟩, a3⟩

def pf_X2_pass (p0 : Int32) (dy : Int32) : Option ((Int32 × Int32) ⊕ Nat) :=
  kv_x0 (pf_X2_requireRange p0 1 400) (kv_T (dy + p0) (fun y_15 => some (.inl (y_15, y_15))))
abbrev rmX2_pass : Room := { frames := 7, cells := 1, slots := 6, locals := 104 }
set_option maxHeartbeats 4000000 in
set_option maxRecDepth 100000 in
theorem c_X2_pass (l : Launch) (hl9 : l.stackTraces = false) (D : va_G) (ci ad : Nat → Nat) (kc : Nat → Int32) (kh : Nat → Int32) (ks : Nat → Int32) (fo : Nat → Nat → Int32) (kl : Nat → Int32) (kp : Nat → Int32) (dy : Int32) (mo : Int32) (n : Nat) (pa : Nat → Nat) (aE : Nat) (qp : Nat → Int32) (qm : Nat → Int32) (ql : Nat → Int32) (qv : Nat → Int32) (qc : Nat → Int32) (qe : Nat → Int32) (mt : Nat → Int32) (mv : Nat → Int32) (sw : Nat → Int32) (hv : Int32) (tk : Nat → Int32) (tn : Nat → Int32) (sc : Nat → Int32) (p0 : Int32)  (hRn : pf_X2_pass p0 dy ≠ none) (sz : Nat) : vx_Met l yX2_pass wsX2_pass rmX2_pass (va_Pc [.ref (ad 0), .int p0] (kv_preX D ci (kv_kw ci ad kc kh ks fo kl kp dy mo n pa aE qp qm ql qv qc qe mt mv sw hv tk tn sc) sz))  (va_Qi (fun (r : Int32) (u : Int32) => pf_X2_pass p0 dy = some (.inl (r, u))) (fun u t => kv_post D (kv_kw ci ad kc kh ks fo kl kp dy mo n pa aE qp qm ql qv qc qe mt mv sw hv tk tn sc) sz (kv_kw ci ad kc kh ks fo kl kp u mo n pa aE qp qm ql qv qc qe mt mv sw hv tk tn sc) t) (va_A (kv_kw ci ad kc kh ks fo kl kp dy mo n pa aE qp qm ql qv qc qe mt mv sw hv tk tn sc) sz)) (vx_X (fun u : Nat => pf_X2_pass p0 dy = some (.inr u)) (fun E u t => E = kv_ex u ∧ kv_post D (kv_kw ci ad kc kh ks fo kl kp dy mo n pa aE qp qm ql qv qc qe mt mv sw hv tk tn sc) sz (kv_kw ci ad kc kh ks fo kl kp dy mo n pa aE qp qm ql qv qc qe mt mv sw hv tk tn sc) t) (va_A (kv_kw ci ad kc kh ks fo kl kp dy mo n pa aE qp qm ql qv qc qe mt mv sw hv tk tn sc) sz)) 1 6 (va_A (kv_kw ci ad kc kh ks fo kl kp dy mo n pa aE qp qm ql qv qc qe mt mv sw hv tk tn sc) sz) := by
  refine vx_ofW (cc := cX2_pass) (maxL := 2) (ret := (some .int)) (by decide) rfl ?_
  intro p en s m args below meth c s₁ B hml hex hv
  obtain ⟨hv0, ⟨hsz, hP, hK, hD0⟩, hT⟩ := hv
  have hx := B.exec
  have hb := B.bytes
  have hr := B.returns
  have hts := atoms_spec (ws := wsX2_pass) B.pre
  have hown : s.vm.findClass RX2 = some m.cls := findClass_of_methodNamed B.named
  have hlocks := B.notSynchronized
  subst hsz
  have hD := hD0.self (sz := s.heap.size)
  generalize hAe : va_A (kv_kw ci ad kc kh ks fo kl kp dy mo n pa aE qp qm ql qv qc qe mt mv sw hv tk tn sc) s.heap.size = A at hD hT ⊢
  have hA : ∀ q : Nat, s.heap.size ≤ q → A q := fun q h => by rw [← hAe]; exact Or.inr h
  have hS : va_S A s.heap s.heap [] := va_S.rf
  have hP : va_P D vwCl (kv_kw ci ad kc kh ks fo kl kp dy mo n pa aE qp qm ql qv qc qe mt mv sw hv tk tn sc) s.heap := hP
  have hinRX2 : ∀ w ∈ u_ws RX2 TX2 9, w ∈ wsX2_pass := by decide +kernel
  generalize hRd : pf_X2_pass p0 dy = Rz at hRn
  have hRz := hRn
  refine kv_Q (fun Q hQ => ?_)
  refine W.eq (show entryFrame m args 2 = _ from by rw [hv0, lg_entry_eq]) ?_
  have hl := lv_entry ([.ref (ad 0), .int p0]) (n := 2) (Nat.le_of_ble_eq_true rfl)
  generalize (lg_sl ([.ref (ad 0), .int p0]) ++ List.replicate (2 - (lg_sl ([.ref (ad 0), .int p0])).length) Slot.unset).toArray = ls at hl ⊢
  have hl : lv_has ls 2 [(0, .ref (ad 0)), (1, .int p0)] := hl
  have e : Rz = pf_X2_pass p0 dy := hRd.symm
  rw [pf_X2_pass] at e
  refine lv_iload_n hx hb dX2_pass_0 rfl (lv_at hl 1 rfl) ?_
  refine lv_iconst (v := 1) hx hb dX2_pass_1 (by decide) ?_
  refine lv_sipush (v := 400) hx hb dX2_pass_2 (by decide) ?_
  refine kv_xcallv (vx_runS (As := [.int p0, .int 1, .int 400]) (rest := []) ⟨hx, hb, hml, hown, hts⟩ (c_X2_requireRange l hl9 D ci ad kc kh ks fo kl kp dy mo n pa aE qp qm ql qv qc qe mt mv sw hv tk tn sc p0 1 400 (kv_x0_n e hRz) s.heap.size) (va_cwS 3 hts gX2_pass_X2_requireRange rfl rfl rfl (by decide +kernel) ⟨Nat.le_of_ble_eq_true rfl, Nat.le_of_ble_eq_true rfl⟩) (kv_preSX hK hP hD hT hS hA) rfl rfl hl.1 rfl (lv_room (Nat.le_of_ble_eq_true rfl)) dX2_pass_5 ⟨Nat.le_of_ble_eq_true rfl, Nat.le_of_ble_eq_true rfl⟩) hD hS hA (fun ce q9 u9 H locs hw9 hP hD hS h1 h2 h3 => ?_) (fun u_5 H locs hw_5 hP hD hS => ?_)
  · rw [hQ]
    exact vx_out (fun x h => (hex x h).elim) hlocks h1 h2 h3 (fun t ht hvm => ⟨u9, kv_x0_t e hw9, ⟨rfl, by rw [ht]; exact hP, by rw [hAe]; exact hD⟩, hS.F ht⟩) hS.2.2 (Nat.le_of_ble_eq_true rfl) (Nat.le_of_ble_eq_true rfl)
  have e := kv_x0_e e hw_5
  refine lv_aload_n hx hb dX2_pass_8 rfl (lv_at hl 0 rfl) ?_
  refine lv_dup hx hb dX2_pass_9 rfl ?_
  refine va_get (D := D) (ci := 3) (v := .int dy) (C := RX2) (T := TX2) (N := 9) hx hb hts hinRX2 hown hK hP 0 rfl rfl 8 (by decide) (hts (.fieldLink RX2 44 "LicenceKeeper" "day" "I") (by decide +kernel)) (fun _ h9 => h9) rfl dX2_pass_10 ?_
  refine lv_iload_n hx hb dX2_pass_13 rfl (lv_at hl 1 rfl) ?_
  refine lv_iadd hx hb dX2_pass_14 ?_
  refine lv_topi (fun y_15 ey_15 => ?_)
  have e := kv_T_e e ey_15
  refine va_put (D := D) (ci := 3) (v := .int y_15) (ty := .int) (C := RX2) (T := TX2) (N := 9) hx hb hts hinRX2 tyX2 tyX2_ok nmX2 hown hK hP hD hS 0 rfl rfl 8 (by decide) (hts (.fieldLink RX2 44 "LicenceKeeper" "day" "I") (by decide +kernel)) (fun _ h9 => h9) rfl (by decide +kernel) rfl rfl (Nat.le_of_ble_eq_true rfl) dX2_pass_15 (fun H locs hP hD hS => ?_)
  have hP : va_P D vwCl (kv_kw ci ad kc kh ks fo kl kp y_15 mo n pa aE qp qm ql qv qc qe mt mv sw hv tk tn sc) H := hP
  have hD : va_D A (kv_kw ci ad kc kh ks fo kl kp y_15 mo n pa aE qp qm ql qv qc qe mt mv sw hv tk tn sc) := hD
  refine lv_aload_n hx hb dX2_pass_18 rfl (lv_at hl 0 rfl) ?_
  refine va_get (D := D) (ci := 3) (v := .int y_15) (C := RX2) (T := TX2) (N := 9) hx hb hts hinRX2 hown hK hP 0 rfl rfl 8 (by decide) (hts (.fieldLink RX2 44 "LicenceKeeper" "day" "I") (by decide +kernel)) (fun _ h9 => h9) rfl dX2_pass_19 ?_
  rw [hQ]
  refine W.widen (k := 1) (n := 6) (Nat.le_of_ble_eq_true rfl) (Nat.le_of_ble_eq_true rfl) ?_
  refine vx_ret ?_
  exact W.iret (v := y_15) hx hb hr (fun t ht hW => ⟨⟨y_15, (y_15), rfl, e, ⟨by rw [ht]; exact hP, by rw [hAe]; exact hD⟩⟩, hS.F ht⟩) hS.2.2 dX2_pass_22

def pf_X2_today (dy : Int32)  : Option (Int32) :=
  some (dy)
abbrev rmX2_today : Room := { frames := 0, cells := 0, slots := 0, locals := 0 }
set_option maxHeartbeats 4000000 in
set_option maxRecDepth 100000 in
theorem c_X2_today (l : Launch) (D : va_G) (ci ad : Nat → Nat) (kc : Nat → Int32) (kh : Nat → Int32) (ks : Nat → Int32) (fo : Nat → Nat → Int32) (kl : Nat → Int32) (kp : Nat → Int32) (dy : Int32) (mo : Int32) (n : Nat) (pa : Nat → Nat) (aE : Nat) (qp : Nat → Int32) (qm : Nat → Int32) (ql : Nat → Int32) (qv : Nat → Int32) (qc : Nat → Int32) (qe : Nat → Int32) (mt : Nat → Int32) (mv : Nat → Int32) (sw : Nat → Int32) (hv : Int32) (tk : Nat → Int32) (tn : Nat → Int32) (sc : Nat → Int32)   (hRn : pf_X2_today dy ≠ none) (sz : Nat) : Met l yX2_today wsX2_today rmX2_today (va_Pc [.ref (ad 0)] (kv_pre D ci (kv_kw ci ad kc kh ks fo kl kp dy mo n pa aE qp qm ql qv qc qe mt mv sw hv tk tn sc) sz)) (va_Qi (fun (r : Int32) (u : Unit) => pf_X2_today dy = some (r)) (fun u t => kv_post D (kv_kw ci ad kc kh ks fo kl kp dy mo n pa aE qp qm ql qv qc qe mt mv sw hv tk tn sc) sz (kv_kw ci ad kc kh ks fo kl kp dy mo n pa aE qp qm ql qv qc qe mt mv sw hv tk tn sc) t) (va_A (kv_kw ci ad kc kh ks fo kl kp dy mo n pa aE qp qm ql qv qc qe mt mv sw hv tk tn sc) sz)) 0 0 (va_A (kv_kw ci ad kc kh ks fo kl kp dy mo n pa aE qp qm ql qv qc qe mt mv sw hv tk tn sc) sz) := by
  refine Met.ofW (cc := cX2_today) (maxL := 1) (ret := (some .int)) (by decide) rfl ?_
  intro p en s m args below meth c s₁ B hml hv
  obtain ⟨hv0, hsz, hP, hK, hD0⟩ := hv
  have hx := B.exec
  have hb := B.bytes
  have hr := B.returns
  have hts := atoms_spec (ws := wsX2_today) B.pre
  have hown : s.vm.findClass RX2 = some m.cls := findClass_of_methodNamed B.named
  have hlocks := B.notSynchronized
  subst hsz
  have hD := hD0.self (sz := s.heap.size)
  generalize hAe : va_A (kv_kw ci ad kc kh ks fo kl kp dy mo n pa aE qp qm ql qv qc qe mt mv sw hv tk tn sc) s.heap.size = A at hD ⊢
  have hA : ∀ q : Nat, s.heap.size ≤ q → A q := fun q h => by rw [← hAe]; exact Or.inr h
  have hS : va_S A s.heap s.heap [] := va_S.rf
  have hP : va_P D vwCl (kv_kw ci ad kc kh ks fo kl kp dy mo n pa aE qp qm ql qv qc qe mt mv sw hv tk tn sc) s.heap := hP
  have hinRX2 : ∀ w ∈ u_ws RX2 TX2 9, w ∈ wsX2_today := by decide +kernel
  generalize hRd : pf_X2_today dy = Rz at hRn
  have hRz := hRn
  refine kv_Q (fun Q hQ => ?_)
  refine W.eq (show entryFrame m args 1 = _ from by rw [hv0, lg_entry_eq]) ?_
  have hl := lv_entry ([.ref (ad 0)]) (n := 1) (Nat.le_of_ble_eq_true rfl)
  generalize (lg_sl ([.ref (ad 0)]) ++ List.replicate (1 - (lg_sl ([.ref (ad 0)])).length) Slot.unset).toArray = ls at hl ⊢
  have hl : lv_has ls 1 [(0, .ref (ad 0))] := hl
  have e : Rz = pf_X2_today dy := hRd.symm
  rw [pf_X2_today] at e
  refine lv_aload_n hx hb dX2_today_0 rfl (lv_at hl 0 rfl) ?_
  refine va_get (D := D) (ci := 3) (v := .int dy) (C := RX2) (T := TX2) (N := 9) hx hb hts hinRX2 hown hK hP 0 rfl rfl 8 (by decide) (hts (.fieldLink RX2 44 "LicenceKeeper" "day" "I") (by decide +kernel)) (fun _ h9 => h9) rfl dX2_today_1 ?_
  rw [hQ]
  exact W.iret (v := dy) hx hb hr (fun t ht hW => ⟨⟨dy, (), rfl, e, ⟨by rw [ht]; exact hP, by rw [hAe]; exact hD⟩⟩, hS.F ht⟩) hS.2.2 dX2_today_4

def pf_X2_rights (n : Nat)  : Option (Int32) :=
  some ((nI n))
abbrev rmX2_rights : Room := { frames := 1, cells := 0, slots := 0, locals := 20 }
set_option maxHeartbeats 4000000 in
set_option maxRecDepth 100000 in
theorem c_X2_rights (l : Launch) (D : va_G) (ci ad : Nat → Nat) (kc : Nat → Int32) (kh : Nat → Int32) (ks : Nat → Int32) (fo : Nat → Nat → Int32) (kl : Nat → Int32) (kp : Nat → Int32) (dy : Int32) (mo : Int32) (n : Nat) (pa : Nat → Nat) (aE : Nat) (qp : Nat → Int32) (qm : Nat → Int32) (ql : Nat → Int32) (qv : Nat → Int32) (qc : Nat → Int32) (qe : Nat → Int32) (mt : Nat → Int32) (mv : Nat → Int32) (sw : Nat → Int32) (hv : Int32) (tk : Nat → Int32) (tn : Nat → Int32) (sc : Nat → Int32)   (hRn : pf_X2_rights n ≠ none) (sz : Nat) : Met l yX2_rights wsX2_rights rmX2_rights (va_Pc [.ref (ad 0)] (kv_pre D ci (kv_kw ci ad kc kh ks fo kl kp dy mo n pa aE qp qm ql qv qc qe mt mv sw hv tk tn sc) sz)) (va_Qi (fun (r : Int32) (u : Unit) => pf_X2_rights n = some (r)) (fun u t => kv_post D (kv_kw ci ad kc kh ks fo kl kp dy mo n pa aE qp qm ql qv qc qe mt mv sw hv tk tn sc) sz (kv_kw ci ad kc kh ks fo kl kp dy mo n pa aE qp qm ql qv qc qe mt mv sw hv tk tn sc) t) (va_A (kv_kw ci ad kc kh ks fo kl kp dy mo n pa aE qp qm ql qv qc qe mt mv sw hv tk tn sc) sz)) 0 0 (va_A (kv_kw ci ad kc kh ks fo kl kp dy mo n pa aE qp qm ql qv qc qe mt mv sw hv tk tn sc) sz) := by
  refine Met.ofW (cc := cX2_rights) (maxL := 1) (ret := (some .int)) (by decide) rfl ?_
  intro p en s m args below meth c s₁ B hml hv
  obtain ⟨hv0, hsz, hP, hK, hD0⟩ := hv
  have hx := B.exec
  have hb := B.bytes
  have hr := B.returns
  have hts := atoms_spec (ws := wsX2_rights) B.pre
  have hown : s.vm.findClass RX2 = some m.cls := findClass_of_methodNamed B.named
  have hlocks := B.notSynchronized
  subst hsz
  have hD := hD0.self (sz := s.heap.size)
  generalize hAe : va_A (kv_kw ci ad kc kh ks fo kl kp dy mo n pa aE qp qm ql qv qc qe mt mv sw hv tk tn sc) s.heap.size = A at hD ⊢
  have hA : ∀ q : Nat, s.heap.size ≤ q → A q := fun q h => by rw [← hAe]; exact Or.inr h
  have hS : va_S A s.heap s.heap [] := va_S.rf
  have hP : va_P D vwCl (kv_kw ci ad kc kh ks fo kl kp dy mo n pa aE qp qm ql qv qc qe mt mv sw hv tk tn sc) s.heap := hP
  have hinRX2 : ∀ w ∈ u_ws RX2 TX2 9, w ∈ wsX2_rights := by decide +kernel
  generalize hRd : pf_X2_rights n = Rz at hRn
  have hRz := hRn
  refine kv_Q (fun Q hQ => ?_)
  refine W.eq (show entryFrame m args 1 = _ from by rw [hv0, lg_entry_eq]) ?_
  have hl := lv_entry ([.ref (ad 0)]) (n := 1) (Nat.le_of_ble_eq_true rfl)
  generalize (lg_sl ([.ref (ad 0)]) ++ List.replicate (1 - (lg_sl ([.ref (ad 0)])).length) Slot.unset).toArray = ls at hl ⊢
  have hl : lv_has ls 1 [(0, .ref (ad 0))] := hl
  have e : Rz = pf_X2_rights n := hRd.symm
  rw [pf_X2_rights] at e
  refine lv_aload_n hx hb dX2_rights_0 rfl (lv_at hl 0 rfl) ?_
  refine va_get (D := D) (ci := 3) (v := .ref (ad 7)) (C := RX2) (T := TX2) (N := 9) hx hb hts hinRX2 hown hK hP 0 rfl rfl 6 (by decide) (hts (.fieldLink RX2 33 "LicenceKeeper" "held" "Ljava/util/ArrayList;") (by decide +kernel)) (fun _ h9 => h9) rfl dX2_rights_1 ?_
  refine kv_calli (va_runV (As := []) (rest := []) ⟨hx, hb, hml, hown, hts⟩ (c_K_size l D ci ad kc kh ks fo kl kp dy mo n pa aE qp qm ql qv qc qe mt mv sw hv tk tn sc s.heap.size) (cwV 0 hts gX2_rights_Jx4a65c_size_8abf5 rfl rfl rfl (by decide +kernel) ⟨Nat.le_of_ble_eq_true rfl, Nat.le_of_ble_eq_true rfl⟩) (kv_preV hK hP hD (r := (RJx4a65c, TJx4a65c, 3)) (q0 := 7) (k := 0) rfl rfl rfl) rfl rfl hl.1 rfl (lv_room (Nat.le_of_ble_eq_true rfl)) dX2_rights_4 ⟨Nat.le_of_ble_eq_true rfl, Nat.le_of_ble_eq_true rfl⟩) hD hS hA (fun r_4 u_4 H locs hw_4 hP hD hS => ?_)
  subst hw_4
  rw [hQ]
  exact W.iret (v := (nI n)) hx hb hr (fun t ht hW => ⟨⟨(nI n), (), rfl, e, ⟨by rw [ht]; exact hP, by rw [hAe]; exact hD⟩⟩, hS.F ht⟩) hS.2.2 dX2_rights_7

def pf_X2_countOf (n : Nat) (qc : Nat → Int32) (p0 : Int32)  : Option ((Int32) ⊕ Nat) :=
  kv_x1 (pf_X2_rightAt n p0) (fun k_2 => some (.inl ((qc k_2))))
abbrev rmX2_countOf : Room := { frames := 7, cells := 1, slots := 6, locals := 103 }
set_option maxHeartbeats 4000000 in
set_option maxRecDepth 100000 in
theorem c_X2_countOf (l : Launch) (hl9 : l.stackTraces = false) (D : va_G) (ci ad : Nat → Nat) (kc : Nat → Int32) (kh : Nat → Int32) (ks : Nat → Int32) (fo : Nat → Nat → Int32) (kl : Nat → Int32) (kp : Nat → Int32) (dy : Int32) (mo : Int32) (n : Nat) (pa : Nat → Nat) (aE : Nat) (qp : Nat → Int32) (qm : Nat → Int32) (ql : Nat → Int32) (qv : Nat → Int32) (qc : Nat → Int32) (qe : Nat → Int32) (mt : Nat → Int32) (mv : Nat → Int32) (sw : Nat → Int32) (hv : Int32) (tk : Nat → Int32) (tn : Nat → Int32) (sc : Nat → Int32) (p0 : Int32)  (hRn : pf_X2_countOf n qc p0 ≠ none) (sz : Nat) : vx_Met l yX2_countOf wsX2_countOf rmX2_countOf (va_Pc [.ref (ad 0), .int p0] (kv_preX D ci (kv_kw ci ad kc kh ks fo kl kp dy mo n pa aE qp qm ql qv qc qe mt mv sw hv tk tn sc) sz))  (va_Qi (fun (r : Int32) (u : Unit) => pf_X2_countOf n qc p0 = some (.inl (r))) (fun u t => kv_post D (kv_kw ci ad kc kh ks fo kl kp dy mo n pa aE qp qm ql qv qc qe mt mv sw hv tk tn sc) sz (kv_kw ci ad kc kh ks fo kl kp dy mo n pa aE qp qm ql qv qc qe mt mv sw hv tk tn sc) t) (va_A (kv_kw ci ad kc kh ks fo kl kp dy mo n pa aE qp qm ql qv qc qe mt mv sw hv tk tn sc) sz)) (vx_X (fun u : Nat => pf_X2_countOf n qc p0 = some (.inr u)) (fun E u t => E = kv_ex u ∧ kv_post D (kv_kw ci ad kc kh ks fo kl kp dy mo n pa aE qp qm ql qv qc qe mt mv sw hv tk tn sc) sz (kv_kw ci ad kc kh ks fo kl kp dy mo n pa aE qp qm ql qv qc qe mt mv sw hv tk tn sc) t) (va_A (kv_kw ci ad kc kh ks fo kl kp dy mo n pa aE qp qm ql qv qc qe mt mv sw hv tk tn sc) sz)) 1 6 (va_A (kv_kw ci ad kc kh ks fo kl kp dy mo n pa aE qp qm ql qv qc qe mt mv sw hv tk tn sc) sz) := by
  refine vx_ofW (cc := cX2_countOf) (maxL := 2) (ret := (some .int)) (by decide) rfl ?_
  intro p en s m args below meth c s₁ B hml hex hv
  obtain ⟨hv0, ⟨hsz, hP, hK, hD0⟩, hT⟩ := hv
  have hx := B.exec
  have hb := B.bytes
  have hr := B.returns
  have hts := atoms_spec (ws := wsX2_countOf) B.pre
  have hown : s.vm.findClass RX2 = some m.cls := findClass_of_methodNamed B.named
  have hlocks := B.notSynchronized
  subst hsz
  have hD := hD0.self (sz := s.heap.size)
  generalize hAe : va_A (kv_kw ci ad kc kh ks fo kl kp dy mo n pa aE qp qm ql qv qc qe mt mv sw hv tk tn sc) s.heap.size = A at hD hT ⊢
  have hA : ∀ q : Nat, s.heap.size ≤ q → A q := fun q h => by rw [← hAe]; exact Or.inr h
  have hS : va_S A s.heap s.heap [] := va_S.rf
  have hP : va_P D vwCl (kv_kw ci ad kc kh ks fo kl kp dy mo n pa aE qp qm ql qv qc qe mt mv sw hv tk tn sc) s.heap := hP
  have hinRX1 : ∀ w ∈ u_ws RX1 TX1 6, w ∈ wsX2_countOf := by decide +kernel
  generalize hRd : pf_X2_countOf n qc p0 = Rz at hRn
  have hRz := hRn
  refine kv_Q (fun Q hQ => ?_)
  refine W.eq (show entryFrame m args 2 = _ from by rw [hv0, lg_entry_eq]) ?_
  have hl := lv_entry ([.ref (ad 0), .int p0]) (n := 2) (Nat.le_of_ble_eq_true rfl)
  generalize (lg_sl ([.ref (ad 0), .int p0]) ++ List.replicate (2 - (lg_sl ([.ref (ad 0), .int p0])).length) Slot.unset).toArray = ls at hl ⊢
  have hl : lv_has ls 2 [(0, .ref (ad 0)), (1, .int p0)] := hl
  have e : Rz = pf_X2_countOf n qc p0 := hRd.symm
  rw [pf_X2_countOf] at e
  refine lv_aload_n hx hb dX2_countOf_0 rfl (lv_at hl 0 rfl) ?_
  refine lv_iload_n hx hb dX2_countOf_1 rfl (lv_at hl 1 rfl) ?_
  refine kv_xcallq (pa := pa) (n := n) (vx_runV (As := [.int p0]) (rest := []) ⟨hx, hb, hml, hown, hts⟩ (c_X2_rightAt l hl9 D ci ad kc kh ks fo kl kp dy mo n pa aE qp qm ql qv qc qe mt mv sw hv tk tn sc p0 (kv_x1_n e hRz) s.heap.size) (cwV 1 hts gX2_countOf_X2_rightAt rfl rfl rfl (by decide +kernel) ⟨Nat.le_of_ble_eq_true rfl, Nat.le_of_ble_eq_true rfl⟩) (kv_preVX hK hP hD hT hS hA (r := (RX2, TX2, 9)) (q0 := 0) (k := 3) rfl rfl rfl) rfl rfl hl.1 rfl (lv_room (Nat.le_of_ble_eq_true rfl)) dX2_countOf_2 ⟨Nat.le_of_ble_eq_true rfl, Nat.le_of_ble_eq_true rfl⟩) hD hS hA (fun ce q9 u9 H locs hw9 hP hD hS h1 h2 h3 => ?_) (fun k_2 H locs hk_2 hw_2 hP hD hS => ?_)
  · rw [hQ]
    exact vx_out (fun x h => (hex x h).elim) hlocks h1 h2 h3 (fun t ht hvm => ⟨u9, kv_x1_t e hw9, ⟨rfl, by rw [ht]; exact hP, by rw [hAe]; exact hD⟩, hS.F ht⟩) hS.2.2 (Nat.le_of_ble_eq_true rfl) (Nat.le_of_ble_eq_true rfl)
  have e := kv_x1_e e hw_2
  refine va_get (D := D) (ci := 2) (v := .int (qc k_2)) (C := RX1) (T := TX1) (N := 6) hx hb hts hinRX1 hown hK hP (24 + k_2) (kv_rt hk_2) rfl 4 (by decide) (hts (.fieldLink RX2 112 "LicenceKeeper$Right" "count" "I") (by decide +kernel)) (fun _ h9 => h9) rfl dX2_countOf_5 ?_
  rw [hQ]
  refine W.widen (k := 1) (n := 6) (Nat.le_of_ble_eq_true rfl) (Nat.le_of_ble_eq_true rfl) ?_
  refine vx_ret ?_
  exact W.iret (v := (qc k_2)) hx hb hr (fun t ht hW => ⟨⟨(qc k_2), (), rfl, e, ⟨by rw [ht]; exact hP, by rw [hAe]; exact hD⟩⟩, hS.F ht⟩) hS.2.2 dX2_countOf_8

def pf_X2_versionOf (n : Nat) (qv : Nat → Int32) (p0 : Int32)  : Option ((Int32) ⊕ Nat) :=
  kv_x1 (pf_X2_rightAt n p0) (fun k_2 => some (.inl ((qv k_2))))
abbrev rmX2_versionOf : Room := { frames := 7, cells := 1, slots := 6, locals := 103 }
set_option maxHeartbeats 4000000 in
set_option maxRecDepth 100000 in
theorem c_X2_versionOf (l : Launch) (hl9 : l.stackTraces = false) (D : va_G) (ci ad : Nat → Nat) (kc : Nat → Int32) (kh : Nat → Int32) (ks : Nat → Int32) (fo : Nat → Nat → Int32) (kl : Nat → Int32) (kp : Nat → Int32) (dy : Int32) (mo : Int32) (n : Nat) (pa : Nat → Nat) (aE : Nat) (qp : Nat → Int32) (qm : Nat → Int32) (ql : Nat → Int32) (qv : Nat → Int32) (qc : Nat → Int32) (qe : Nat → Int32) (mt : Nat → Int32) (mv : Nat → Int32) (sw : Nat → Int32) (hv : Int32) (tk : Nat → Int32) (tn : Nat → Int32) (sc : Nat → Int32) (p0 : Int32)  (hRn : pf_X2_versionOf n qv p0 ≠ none) (sz : Nat) : vx_Met l yX2_versionOf wsX2_versionOf rmX2_versionOf (va_Pc [.ref (ad 0), .int p0] (kv_preX D ci (kv_kw ci ad kc kh ks fo kl kp dy mo n pa aE qp qm ql qv qc qe mt mv sw hv tk tn sc) sz))  (va_Qi (fun (r : Int32) (u : Unit) => pf_X2_versionOf n qv p0 = some (.inl (r))) (fun u t => kv_post D (kv_kw ci ad kc kh ks fo kl kp dy mo n pa aE qp qm ql qv qc qe mt mv sw hv tk tn sc) sz (kv_kw ci ad kc kh ks fo kl kp dy mo n pa aE qp qm ql qv qc qe mt mv sw hv tk tn sc) t) (va_A (kv_kw ci ad kc kh ks fo kl kp dy mo n pa aE qp qm ql qv qc qe mt mv sw hv tk tn sc) sz)) (vx_X (fun u : Nat => pf_X2_versionOf n qv p0 = some (.inr u)) (fun E u t => E = kv_ex u ∧ kv_post D (kv_kw ci ad kc kh ks fo kl kp dy mo n pa aE qp qm ql qv qc qe mt mv sw hv tk tn sc) sz (kv_kw ci ad kc kh ks fo kl kp dy mo n pa aE qp qm ql qv qc qe mt mv sw hv tk tn sc) t) (va_A (kv_kw ci ad kc kh ks fo kl kp dy mo n pa aE qp qm ql qv qc qe mt mv sw hv tk tn sc) sz)) 1 6 (va_A (kv_kw ci ad kc kh ks fo kl kp dy mo n pa aE qp qm ql qv qc qe mt mv sw hv tk tn sc) sz) := by
  refine vx_ofW (cc := cX2_versionOf) (maxL := 2) (ret := (some .int)) (by decide) rfl ?_
  intro p en s m args below meth c s₁ B hml hex hv
  obtain ⟨hv0, ⟨hsz, hP, hK, hD0⟩, hT⟩ := hv
  have hx := B.exec
  have hb := B.bytes
  have hr := B.returns
  have hts := atoms_spec (ws := wsX2_versionOf) B.pre
  have hown : s.vm.findClass RX2 = some m.cls := findClass_of_methodNamed B.named
  have hlocks := B.notSynchronized
  subst hsz
  have hD := hD0.self (sz := s.heap.size)
  generalize hAe : va_A (kv_kw ci ad kc kh ks fo kl kp dy mo n pa aE qp qm ql qv qc qe mt mv sw hv tk tn sc) s.heap.size = A at hD hT ⊢
  have hA : ∀ q : Nat, s.heap.size ≤ q → A q := fun q h => by rw [← hAe]; exact Or.inr h
  have hS : va_S A s.heap s.heap [] := va_S.rf
  have hP : va_P D vwCl (kv_kw ci ad kc kh ks fo kl kp dy mo n pa aE qp qm ql qv qc qe mt mv sw hv tk tn sc) s.heap := hP
  have hinRX1 : ∀ w ∈ u_ws RX1 TX1 6, w ∈ wsX2_versionOf := by decide +kernel
  generalize hRd : pf_X2_versionOf n qv p0 = Rz at hRn
  have hRz := hRn
  refine kv_Q (fun Q hQ => ?_)
  refine W.eq (show entryFrame m args 2 = _ from by rw [hv0, lg_entry_eq]) ?_
  have hl := lv_entry ([.ref (ad 0), .int p0]) (n := 2) (Nat.le_of_ble_eq_true rfl)
  generalize (lg_sl ([.ref (ad 0), .int p0]) ++ List.replicate (2 - (lg_sl ([.ref (ad 0), .int p0])).length) Slot.unset).toArray = ls at hl ⊢
  have hl : lv_has ls 2 [(0, .ref (ad 0)), (1, .int p0)] := hl
  have e : Rz = pf_X2_versionOf n qv p0 := hRd.symm
  rw [pf_X2_versionOf] at e
  refine lv_aload_n hx hb dX2_versionOf_0 rfl (lv_at hl 0 rfl) ?_
  refine lv_iload_n hx hb dX2_versionOf_1 rfl (lv_at hl 1 rfl) ?_
  refine kv_xcallq (pa := pa) (n := n) (vx_runV (As := [.int p0]) (rest := []) ⟨hx, hb, hml, hown, hts⟩ (c_X2_rightAt l hl9 D ci ad kc kh ks fo kl kp dy mo n pa aE qp qm ql qv qc qe mt mv sw hv tk tn sc p0 (kv_x1_n e hRz) s.heap.size) (cwV 1 hts gX2_versionOf_X2_rightAt rfl rfl rfl (by decide +kernel) ⟨Nat.le_of_ble_eq_true rfl, Nat.le_of_ble_eq_true rfl⟩) (kv_preVX hK hP hD hT hS hA (r := (RX2, TX2, 9)) (q0 := 0) (k := 3) rfl rfl rfl) rfl rfl hl.1 rfl (lv_room (Nat.le_of_ble_eq_true rfl)) dX2_versionOf_2 ⟨Nat.le_of_ble_eq_true rfl, Nat.le_of_ble_eq_true rfl⟩) hD hS hA (fun ce q9 u9 H locs hw9 hP hD hS h1 h2 h3 => ?_) (fun k_2 H locs hk_2 hw_2 hP hD hS => ?_)
  · rw [hQ]
    exact vx_out (fun x h => (hex x h).elim) hlocks h1 h2 h3 (fun t ht hvm => ⟨u9, kv_x1_t e hw9, ⟨rfl, by rw [ht]; exact hP, by rw [hAe]; exact hD⟩, hS.F ht⟩) hS.2.2 (Nat.le_of_ble_eq_true rfl) (Nat.le_of_ble_eq_true rfl)
  have e := kv_x1_e e hw_2
  refine va_get (D := D) (ci := 2) (v := .int (qv k_2)) (C := RX1) (T := TX1) (N := 6) hx hb hts hinRX1 hown hK hP (24 + k_2) (kv_rt hk_2) rfl 3 (by decide) (hts (.fieldLink RX2 89 "LicenceKeeper$Right" "version" "I") (by decide +kernel)) (fun _ h9 => h9) rfl dX2_versionOf_5 ?_
  rw [hQ]
  refine W.widen (k := 1) (n := 6) (Nat.le_of_ble_eq_true rfl) (Nat.le_of_ble_eq_true rfl) ?_
  refine vx_ret ?_
  exact W.iret (v := (qv k_2)) hx hb hr (fun t ht hW => ⟨⟨(qv k_2), (), rfl, e, ⟨by rw [ht]; exact hP, by rw [hAe]; exact hD⟩⟩, hS.F ht⟩) hS.2.2 dX2_versionOf_8

def pf_X2_latest (kl : Nat → Int32) (p0 : Int32)  : Option ((Int32) ⊕ Nat) :=
  kv_x0 (pf_X2_requireProduct p0) (kv_G p0 4 (kv_T (kl p0.toNatClampNeg) (fun y_9 => some (.inl (y_9)))))
abbrev rmX2_latest : Room := { frames := 7, cells := 1, slots := 6, locals := 102 }
set_option maxHeartbeats 4000000 in
set_option maxRecDepth 100000 in
theorem c_X2_latest (l : Launch) (hl9 : l.stackTraces = false) (D : va_G) (ci ad : Nat → Nat) (kc : Nat → Int32) (kh : Nat → Int32) (ks : Nat → Int32) (fo : Nat → Nat → Int32) (kl : Nat → Int32) (kp : Nat → Int32) (dy : Int32) (mo : Int32) (n : Nat) (pa : Nat → Nat) (aE : Nat) (qp : Nat → Int32) (qm : Nat → Int32) (ql : Nat → Int32) (qv : Nat → Int32) (qc : Nat → Int32) (qe : Nat → Int32) (mt : Nat → Int32) (mv : Nat → Int32) (sw : Nat → Int32) (hv : Int32) (tk : Nat → Int32) (tn : Nat → Int32) (sc : Nat → Int32) (p0 : Int32)  (hRn : pf_X2_latest kl p0 ≠ none) (sz : Nat) : vx_Met l yX2_latest wsX2_latest rmX2_latest (va_Pc [.ref (ad 0), .int p0] (kv_preX D ci (kv_kw ci ad kc kh ks fo kl kp dy mo n pa aE qp qm ql qv qc qe mt mv sw hv tk tn sc) sz))  (va_Qi (fun (r : Int32) (u : Unit) => pf_X2_latest kl p0 = some (.inl (r))) (fun u t => kv_post D (kv_kw ci ad kc kh ks fo kl kp dy mo n pa aE qp qm ql qv qc qe mt mv sw hv tk tn sc) sz (kv_kw ci ad kc kh ks fo kl kp dy mo n pa aE qp qm ql qv qc qe mt mv sw hv tk tn sc) t) (va_A (kv_kw ci ad kc kh ks fo kl kp dy mo n pa aE qp qm ql qv qc qe mt mv sw hv tk tn sc) sz)) (vx_X (fun u : Nat => pf_X2_latest kl p0 = some (.inr u)) (fun E u t => E = kv_ex u ∧ kv_post D (kv_kw ci ad kc kh ks fo kl kp dy mo n pa aE qp qm ql qv qc qe mt mv sw hv tk tn sc) sz (kv_kw ci ad kc kh ks fo kl kp dy mo n pa aE qp qm ql qv qc qe mt mv sw hv tk tn sc) t) (va_A (kv_kw ci ad kc kh ks fo kl kp dy mo n pa aE qp qm ql qv qc qe mt mv sw hv tk tn sc) sz)) 1 6 (va_A (kv_kw ci ad kc kh ks fo kl kp dy mo n pa aE qp qm ql qv qc qe mt mv sw hv tk tn sc) sz) := by
  refine vx_ofW (cc := cX2_latest) (maxL := 2) (ret := (some .int)) (by decide) rfl ?_
  intro p en s m args below meth c s₁ B hml hex hv
  obtain ⟨hv0, ⟨hsz, hP, hK, hD0⟩, hT⟩ := hv
  have hx := B.exec
  have hb := B.bytes
  have hr := B.returns
  have hts := atoms_spec (ws := wsX2_latest) B.pre
  have hown : s.vm.findClass RX2 = some m.cls := findClass_of_methodNamed B.named
  have hlocks := B.notSynchronized
  subst hsz
  have hD := hD0.self (sz := s.heap.size)
  generalize hAe : va_A (kv_kw ci ad kc kh ks fo kl kp dy mo n pa aE qp qm ql qv qc qe mt mv sw hv tk tn sc) s.heap.size = A at hD hT ⊢
  have hA : ∀ q : Nat, s.heap.size ≤ q → A q := fun q h => by rw [← hAe]; exact Or.inr h
  have hS : va_S A s.heap s.heap [] := va_S.rf
  have hP : va_P D vwCl (kv_kw ci ad kc kh ks fo kl kp dy mo n pa aE qp qm ql qv qc qe mt mv sw hv tk tn sc) s.heap := hP
  have hinRX2 : ∀ w ∈ u_ws RX2 TX2 9, w ∈ wsX2_latest := by decide +kernel
  generalize hRd : pf_X2_latest kl p0 = Rz at hRn
  have hRz := hRn
  refine kv_Q (fun Q hQ => ?_)
  refine W.eq (show entryFrame m args 2 = _ from by rw [hv0, lg_entry_eq]) ?_
  have hl := lv_entry ([.ref (ad 0), .int p0]) (n := 2) (Nat.le_of_ble_eq_true rfl)
  generalize (lg_sl ([.ref (ad 0), .int p0]) ++ List.replicate (2 - (lg_sl ([.ref (ad 0), .int p0])).length) Slot.unset).toArray = ls at hl ⊢
  have hl : lv_has ls 2 [(0, .ref (ad 0)), (1, .int p0)] := hl
  have e : Rz = pf_X2_latest kl p0 := hRd.symm
  rw [pf_X2_latest] at e
  refine lv_iload_n hx hb dX2_latest_0 rfl (lv_at hl 1 rfl) ?_
  refine kv_xcallv (vx_runS (As := [.int p0]) (rest := []) ⟨hx, hb, hml, hown, hts⟩ (c_X2_requireProduct l hl9 D ci ad kc kh ks fo kl kp dy mo n pa aE qp qm ql qv qc qe mt mv sw hv tk tn sc p0 (kv_x0_n e hRz) s.heap.size) (va_cwS 1 hts gX2_latest_X2_requireProduct rfl rfl rfl (by decide +kernel) ⟨Nat.le_of_ble_eq_true rfl, Nat.le_of_ble_eq_true rfl⟩) (kv_preSX hK hP hD hT hS hA) rfl rfl hl.1 rfl (lv_room (Nat.le_of_ble_eq_true rfl)) dX2_latest_1 ⟨Nat.le_of_ble_eq_true rfl, Nat.le_of_ble_eq_true rfl⟩) hD hS hA (fun ce q9 u9 H locs hw9 hP hD hS h1 h2 h3 => ?_) (fun u_1 H locs hw_1 hP hD hS => ?_)
  · rw [hQ]
    exact vx_out (fun x h => (hex x h).elim) hlocks h1 h2 h3 (fun t ht hvm => ⟨u9, kv_x0_t e hw9, ⟨rfl, by rw [ht]; exact hP, by rw [hAe]; exact hD⟩, hS.F ht⟩) hS.2.2 (Nat.le_of_ble_eq_true rfl) (Nat.le_of_ble_eq_true rfl)
  have e := kv_x0_e e hw_1
  refine lv_aload_n hx hb dX2_latest_4 rfl (lv_at hl 0 rfl) ?_
  refine va_get (D := D) (ci := 3) (v := .ref (ad 5)) (C := RX2) (T := TX2) (N := 9) hx hb hts hinRX2 hown hK hP 0 rfl rfl 4 (by decide) (hts (.fieldLink RX2 24 "LicenceKeeper" "latestVersions" "[I") (by decide +kernel)) (fun _ h9 => h9) rfl dX2_latest_5 ?_
  refine lv_iload_n hx hb dX2_latest_8 rfl (lv_at hl 1 rfl) ?_
  obtain ⟨hi_9, e⟩ := kv_G_e e hRz
  refine kv_iald hx hb hK hP 5 0 hi_9 dX2_latest_9 rfl rfl (fun y_9 ey_9 => ?_)
  have e := kv_T_e e ey_9
  rw [hQ]
  refine W.widen (k := 1) (n := 6) (Nat.le_of_ble_eq_true rfl) (Nat.le_of_ble_eq_true rfl) ?_
  refine vx_ret ?_
  exact W.iret (v := y_9) hx hb hr (fun t ht hW => ⟨⟨y_9, (), rfl, e, ⟨by rw [ht]; exact hP, by rw [hAe]; exact hD⟩⟩, hS.F ht⟩) hS.2.2 dX2_latest_10

def pf_X2_hostOf (kh : Nat → Int32) (p0 : Int32)  : Option ((Int32) ⊕ Nat) :=
  kv_x0 (pf_X2_requireMachine p0) (kv_G p0 8 (kv_T (kh p0.toNatClampNeg) (fun y_9 => some (.inl (y_9)))))
abbrev rmX2_hostOf : Room := { frames := 7, cells := 1, slots := 6, locals := 102 }
set_option maxHeartbeats 4000000 in
set_option maxRecDepth 100000 in
theorem c_X2_hostOf (l : Launch) (hl9 : l.stackTraces = false) (D : va_G) (ci ad : Nat → Nat) (kc : Nat → Int32) (kh : Nat → Int32) (ks : Nat → Int32) (fo : Nat → Nat → Int32) (kl : Nat → Int32) (kp : Nat → Int32) (dy : Int32) (mo : Int32) (n : Nat) (pa : Nat → Nat) (aE : Nat) (qp : Nat → Int32) (qm : Nat → Int32) (ql : Nat → Int32) (qv : Nat → Int32) (qc : Nat → Int32) (qe : Nat → Int32) (mt : Nat → Int32) (mv : Nat → Int32) (sw : Nat → Int32) (hv : Int32) (tk : Nat → Int32) (tn : Nat → Int32) (sc : Nat → Int32) (p0 : Int32)  (hRn : pf_X2_hostOf kh p0 ≠ none) (sz : Nat) : vx_Met l yX2_hostOf wsX2_hostOf rmX2_hostOf (va_Pc [.ref (ad 0), .int p0] (kv_preX D ci (kv_kw ci ad kc kh ks fo kl kp dy mo n pa aE qp qm ql qv qc qe mt mv sw hv tk tn sc) sz))  (va_Qi (fun (r : Int32) (u : Unit) => pf_X2_hostOf kh p0 = some (.inl (r))) (fun u t => kv_post D (kv_kw ci ad kc kh ks fo kl kp dy mo n pa aE qp qm ql qv qc qe mt mv sw hv tk tn sc) sz (kv_kw ci ad kc kh ks fo kl kp dy mo n pa aE qp qm ql qv qc qe mt mv sw hv tk tn sc) t) (va_A (kv_kw ci ad kc kh ks fo kl kp dy mo n pa aE qp qm ql qv qc qe mt mv sw hv tk tn sc) sz)) (vx_X (fun u : Nat => pf_X2_hostOf kh p0 = some (.inr u)) (fun E u t => E = kv_ex u ∧ kv_post D (kv_kw ci ad kc kh ks fo kl kp dy mo n pa aE qp qm ql qv qc qe mt mv sw hv tk tn sc) sz (kv_kw ci ad kc kh ks fo kl kp dy mo n pa aE qp qm ql qv qc qe mt mv sw hv tk tn sc) t) (va_A (kv_kw ci ad kc kh ks fo kl kp dy mo n pa aE qp qm ql qv qc qe mt mv sw hv tk tn sc) sz)) 1 6 (va_A (kv_kw ci ad kc kh ks fo kl kp dy mo n pa aE qp qm ql qv qc qe mt mv sw hv tk tn sc) sz) := by
  refine vx_ofW (cc := cX2_hostOf) (maxL := 2) (ret := (some .int)) (by decide) rfl ?_
  intro p en s m args below meth c s₁ B hml hex hv
  obtain ⟨hv0, ⟨hsz, hP, hK, hD0⟩, hT⟩ := hv
  have hx := B.exec
  have hb := B.bytes
  have hr := B.returns
  have hts := atoms_spec (ws := wsX2_hostOf) B.pre
  have hown : s.vm.findClass RX2 = some m.cls := findClass_of_methodNamed B.named
  have hlocks := B.notSynchronized
  subst hsz
  have hD := hD0.self (sz := s.heap.size)
  generalize hAe : va_A (kv_kw ci ad kc kh ks fo kl kp dy mo n pa aE qp qm ql qv qc qe mt mv sw hv tk tn sc) s.heap.size = A at hD hT ⊢
  have hA : ∀ q : Nat, s.heap.size ≤ q → A q := fun q h => by rw [← hAe]; exact Or.inr h
  have hS : va_S A s.heap s.heap [] := va_S.rf
  have hP : va_P D vwCl (kv_kw ci ad kc kh ks fo kl kp dy mo n pa aE qp qm ql qv qc qe mt mv sw hv tk tn sc) s.heap := hP
  have hinRX2 : ∀ w ∈ u_ws RX2 TX2 9, w ∈ wsX2_hostOf := by decide +kernel
  generalize hRd : pf_X2_hostOf kh p0 = Rz at hRn
  have hRz := hRn
  refine kv_Q (fun Q hQ => ?_)
  refine W.eq (show entryFrame m args 2 = _ from by rw [hv0, lg_entry_eq]) ?_
  have hl := lv_entry ([.ref (ad 0), .int p0]) (n := 2) (Nat.le_of_ble_eq_true rfl)
  generalize (lg_sl ([.ref (ad 0), .int p0]) ++ List.replicate (2 - (lg_sl ([.ref (ad 0), .int p0])).length) Slot.unset).toArray = ls at hl ⊢
  have hl : lv_has ls 2 [(0, .ref (ad 0)), (1, .int p0)] := hl
  have e : Rz = pf_X2_hostOf kh p0 := hRd.symm
  rw [pf_X2_hostOf] at e
  refine lv_iload_n hx hb dX2_hostOf_0 rfl (lv_at hl 1 rfl) ?_
  refine kv_xcallv (vx_runS (As := [.int p0]) (rest := []) ⟨hx, hb, hml, hown, hts⟩ (c_X2_requireMachine l hl9 D ci ad kc kh ks fo kl kp dy mo n pa aE qp qm ql qv qc qe mt mv sw hv tk tn sc p0 (kv_x0_n e hRz) s.heap.size) (va_cwS 1 hts gX2_hostOf_X2_requireMachine rfl rfl rfl (by decide +kernel) ⟨Nat.le_of_ble_eq_true rfl, Nat.le_of_ble_eq_true rfl⟩) (kv_preSX hK hP hD hT hS hA) rfl rfl hl.1 rfl (lv_room (Nat.le_of_ble_eq_true rfl)) dX2_hostOf_1 ⟨Nat.le_of_ble_eq_true rfl, Nat.le_of_ble_eq_true rfl⟩) hD hS hA (fun ce q9 u9 H locs hw9 hP hD hS h1 h2 h3 => ?_) (fun u_1 H locs hw_1 hP hD hS => ?_)
  · rw [hQ]
    exact vx_out (fun x h => (hex x h).elim) hlocks h1 h2 h3 (fun t ht hvm => ⟨u9, kv_x0_t e hw9, ⟨rfl, by rw [ht]; exact hP, by rw [hAe]; exact hD⟩, hS.F ht⟩) hS.2.2 (Nat.le_of_ble_eq_true rfl) (Nat.le_of_ble_eq_true rfl)
  have e := kv_x0_e e hw_1
  refine lv_aload_n hx hb dX2_hostOf_4 rfl (lv_at hl 0 rfl) ?_
  refine va_get (D := D) (ci := 3) (v := .ref (ad 2)) (C := RX2) (T := TX2) (N := 9) hx hb hts hinRX2 hown hK hP 0 rfl rfl 1 (by decide) (hts (.fieldLink RX2 13 "LicenceKeeper" "hosts" "[I") (by decide +kernel)) (fun _ h9 => h9) rfl dX2_hostOf_5 ?_
  refine lv_iload_n hx hb dX2_hostOf_8 rfl (lv_at hl 1 rfl) ?_
  obtain ⟨hi_9, e⟩ := kv_G_e e hRz
  refine kv_iald hx hb hK hP 2 0 hi_9 dX2_hostOf_9 rfl rfl (fun y_9 ey_9 => ?_)
  have e := kv_T_e e ey_9
  rw [hQ]
  refine W.widen (k := 1) (n := 6) (Nat.le_of_ble_eq_true rfl) (Nat.le_of_ble_eq_true rfl) ?_
  refine vx_ret ?_
  exact W.iret (v := y_9) hx hb hr (fun t ht hW => ⟨⟨y_9, (), rfl, e, ⟨by rw [ht]; exact hP, by rw [hAe]; exact hD⟩⟩, hS.F ht⟩) hS.2.2 dX2_hostOf_10

def pf_X2_weight (kc : Nat → Int32) (fo : Nat → Nat → Int32) (kp : Nat → Int32) (p0 : Int32) (p1 : Int32)  : Option ((Int32) ⊕ Nat) :=
  kv_x0 (pf_X2_requireMachine p0) (kv_x0 (pf_X2_requireProduct p1) (kv_q1 (pf_X2_weightOn kc fo kp p0 p1) (fun r_11 => some (.inl (r_11)))))
abbrev rmX2_weight : Room := { frames := 7, cells := 2, slots := 12, locals := 102 }
set_option maxHeartbeats 4000000 in
set_option maxRecDepth 100000 in
theorem c_X2_weight (l : Launch) (hl9 : l.stackTraces = false) (D : va_G) (ci ad : Nat → Nat) (kc : Nat → Int32) (kh : Nat → Int32) (ks : Nat → Int32) (fo : Nat → Nat → Int32) (kl : Nat → Int32) (kp : Nat → Int32) (dy : Int32) (mo : Int32) (n : Nat) (pa : Nat → Nat) (aE : Nat) (qp : Nat → Int32) (qm : Nat → Int32) (ql : Nat → Int32) (qv : Nat → Int32) (qc : Nat → Int32) (qe : Nat → Int32) (mt : Nat → Int32) (mv : Nat → Int32) (sw : Nat → Int32) (hv : Int32) (tk : Nat → Int32) (tn : Nat → Int32) (sc : Nat → Int32) (p0 : Int32) (p1 : Int32)  (hRn : pf_X2_weight kc fo kp p0 p1 ≠ none) (sz : Nat) : vx_Met l yX2_weight wsX2_weight rmX2_weight (va_Pc [.ref (ad 0), .int p0, .int p1] (kv_preX D ci (kv_kw ci ad kc kh ks fo kl kp dy mo n pa aE qp qm ql qv qc qe mt mv sw hv tk tn sc) sz))  (va_Qi (fun (r : Int32) (u : Unit) => pf_X2_weight kc fo kp p0 p1 = some (.inl (r))) (fun u t => kv_post D (kv_kw ci ad kc kh ks fo kl kp dy mo n pa aE qp qm ql qv qc qe mt mv sw hv tk tn sc) sz (kv_kw ci ad kc kh ks fo kl kp dy mo n pa aE qp qm ql qv qc qe mt mv sw hv tk tn sc) t) (va_A (kv_kw ci ad kc kh ks fo kl kp dy mo n pa aE qp qm ql qv qc qe mt mv sw hv tk tn sc) sz)) (vx_X (fun u : Nat => pf_X2_weight kc fo kp p0 p1 = some (.inr u)) (fun E u t => E = kv_ex u ∧ kv_post D (kv_kw ci ad kc kh ks fo kl kp dy mo n pa aE qp qm ql qv qc qe mt mv sw hv tk tn sc) sz (kv_kw ci ad kc kh ks fo kl kp dy mo n pa aE qp qm ql qv qc qe mt mv sw hv tk tn sc) t) (va_A (kv_kw ci ad kc kh ks fo kl kp dy mo n pa aE qp qm ql qv qc qe mt mv sw hv tk tn sc) sz)) 2 12 (va_A (kv_kw ci ad kc kh ks fo kl kp dy mo n pa aE qp qm ql qv qc qe mt mv sw hv tk tn sc) sz) := by
  refine vx_ofW (cc := cX2_weight) (maxL := 3) (ret := (some .int)) (by decide) rfl ?_
  intro p en s m args below meth c s₁ B hml hex hv
  obtain ⟨hv0, ⟨hsz, hP, hK, hD0⟩, hT⟩ := hv
  have hx := B.exec
  have hb := B.bytes
  have hr := B.returns
  have hts := atoms_spec (ws := wsX2_weight) B.pre
  have hown : s.vm.findClass RX2 = some m.cls := findClass_of_methodNamed B.named
  have hlocks := B.notSynchronized
  subst hsz
  have hD := hD0.self (sz := s.heap.size)
  generalize hAe : va_A (kv_kw ci ad kc kh ks fo kl kp dy mo n pa aE qp qm ql qv qc qe mt mv sw hv tk tn sc) s.heap.size = A at hD hT ⊢
  have hA : ∀ q : Nat, s.heap.size ≤ q → A q := fun q h => by rw [← hAe]; exact Or.inr h
  have hS : va_S A s.heap s.heap [] := va_S.rf
  have hP : va_P D vwCl (kv_kw ci ad kc kh ks fo kl kp dy mo n pa aE qp qm ql qv qc qe mt mv sw hv tk tn sc) s.heap := hP
  generalize hRd : pf_X2_weight kc fo kp p0 p1 = Rz at hRn
  have hRz := hRn
  refine kv_Q (fun Q hQ => ?_)
  refine W.eq (show entryFrame m args 3 = _ from by rw [hv0, lg_entry_eq]) ?_
  have hl := lv_entry ([.ref (ad 0), .int p0, .int p1]) (n := 3) (Nat.le_of_ble_eq_true rfl)
  generalize (lg_sl ([.ref (ad 0), .int p0, .int p1]) ++ List.replicate (3 - (lg_sl ([.ref (ad 0), .int p0, .int p1])).length) Slot.unset).toArray = ls at hl ⊢
  have hl : lv_has ls 3 [(0, .ref (ad 0)), (1, .int p0), (2, .int p1)] := hl
  have e : Rz = pf_X2_weight kc fo kp p0 p1 := hRd.symm
  rw [pf_X2_weight] at e
  refine lv_iload_n hx hb dX2_weight_0 rfl (lv_at hl 1 rfl) ?_
  refine kv_xcallv (vx_runS (As := [.int p0]) (rest := []) ⟨hx, hb, hml, hown, hts⟩ (c_X2_requireMachine l hl9 D ci ad kc kh ks fo kl kp dy mo n pa aE qp qm ql qv qc qe mt mv sw hv tk tn sc p0 (kv_x0_n e hRz) s.heap.size) (va_cwS 1 hts gX2_weight_X2_requireMachine rfl rfl rfl (by decide +kernel) ⟨Nat.le_of_ble_eq_true rfl, Nat.le_of_ble_eq_true rfl⟩) (kv_preSX hK hP hD hT hS hA) rfl rfl hl.1 rfl (lv_room (Nat.le_of_ble_eq_true rfl)) dX2_weight_1 ⟨Nat.le_of_ble_eq_true rfl, Nat.le_of_ble_eq_true rfl⟩) hD hS hA (fun ce q9 u9 H locs hw9 hP hD hS h1 h2 h3 => ?_) (fun u_1 H locs hw_1 hP hD hS => ?_)
  · rw [hQ]
    exact vx_out (fun x h => (hex x h).elim) hlocks h1 h2 h3 (fun t ht hvm => ⟨u9, kv_x0_t e hw9, ⟨rfl, by rw [ht]; exact hP, by rw [hAe]; exact hD⟩, hS.F ht⟩) hS.2.2 (Nat.le_of_ble_eq_true rfl) (Nat.le_of_ble_eq_true rfl)
  have e := kv_x0_e e hw_1
  refine lv_iload_n hx hb dX2_weight_4 rfl (lv_at hl 2 rfl) ?_
  refine kv_xcallv (vx_runS (As := [.int p1]) (rest := []) ⟨hx, hb, hml, hown, hts⟩ (c_X2_requireProduct l hl9 D ci ad kc kh ks fo kl kp dy mo n pa aE qp qm ql qv qc qe mt mv sw hv tk tn sc p1 (kv_x0_n e hRz) H.size) (va_cwS 1 hts gX2_weight_X2_requireProduct rfl rfl rfl (by decide +kernel) ⟨Nat.le_of_ble_eq_true rfl, Nat.le_of_ble_eq_true rfl⟩) (kv_preSX hK hP hD hT hS hA) rfl rfl hl.1 rfl (lv_room (Nat.le_of_ble_eq_true rfl)) dX2_weight_5 ⟨Nat.le_of_ble_eq_true rfl, Nat.le_of_ble_eq_true rfl⟩) hD hS hA (fun ce q9 u9 H locs hw9 hP hD hS h1 h2 h3 => ?_) (fun u_5 H locs hw_5 hP hD hS => ?_)
  · rw [hQ]
    exact vx_out (fun x h => (hex x h).elim) hlocks h1 h2 h3 (fun t ht hvm => ⟨u9, kv_x0_t e hw9, ⟨rfl, by rw [ht]; exact hP, by rw [hAe]; exact hD⟩, hS.F ht⟩) hS.2.2 (Nat.le_of_ble_eq_true rfl) (Nat.le_of_ble_eq_true rfl)
  have e := kv_x0_e e hw_5
  refine lv_aload_n hx hb dX2_weight_8 rfl (lv_at hl 0 rfl) ?_
  refine lv_iload_n hx hb dX2_weight_9 rfl (lv_at hl 1 rfl) ?_
  refine lv_iload_n hx hb dX2_weight_10 rfl (lv_at hl 2 rfl) ?_
  refine kv_calli (va_runV (As := [.int p0, .int p1]) (rest := []) ⟨hx, hb, hml, hown, hts⟩ (c_X2_weightOn l D ci ad kc kh ks fo kl kp dy mo n pa aE qp qm ql qv qc qe mt mv sw hv tk tn sc p0 p1 (kv_q1_n e hRz) H.size) (cwV 2 hts gX2_weight_X2_weightOn rfl rfl rfl (by decide +kernel) ⟨Nat.le_of_ble_eq_true rfl, Nat.le_of_ble_eq_true rfl⟩) (kv_preV hK hP hD (r := (RX2, TX2, 9)) (q0 := 0) (k := 3) rfl rfl rfl) rfl rfl hl.1 rfl (lv_room (Nat.le_of_ble_eq_true rfl)) dX2_weight_11 ⟨Nat.le_of_ble_eq_true rfl, Nat.le_of_ble_eq_true rfl⟩) hD hS hA (fun r_11 u_11 H locs hw_11 hP hD hS => ?_)
  have e := kv_q1_e e hw_11
  rw [hQ]
  refine W.widen (k := 2) (n := 12) (Nat.le_of_ble_eq_true rfl) (Nat.le_of_ble_eq_true rfl) ?_
  refine vx_ret ?_
  exact W.iret (v := r_11) hx hb hr (fun t ht hW => ⟨⟨r_11, (), rfl, e, ⟨by rw [ht]; exact hP, by rw [hAe]; exact hD⟩⟩, hS.F ht⟩) hS.2.2 dX2_weight_14

def pf_X2_covers (kh : Nat → Int32) (fo : Nat → Nat → Int32) (n : Nat) (qp : Nat → Int32) (qm : Nat → Int32) (qv : Nat → Int32) (p0 : Int32) (p1 : Int32)  : Option ((Int32) ⊕ Nat) :=
  kv_x1 (pf_X2_rightAt n p0) (fun k_2 => kv_x0 (pf_X2_requireMachine p1) (kv_q1 (pf_X2_coverOn fo n qp qm qv k_2 p1 kh) (fun r_17 => some (.inl (r_17)))))
abbrev rmX2_covers : Room := { frames := 7, cells := 2, slots := 12, locals := 103 }
set_option maxHeartbeats 4000000 in
set_option maxRecDepth 100000 in
theorem c_X2_covers (l : Launch) (hl9 : l.stackTraces = false) (D : va_G) (ci ad : Nat → Nat) (kc : Nat → Int32) (kh : Nat → Int32) (ks : Nat → Int32) (fo : Nat → Nat → Int32) (kl : Nat → Int32) (kp : Nat → Int32) (dy : Int32) (mo : Int32) (n : Nat) (pa : Nat → Nat) (aE : Nat) (qp : Nat → Int32) (qm : Nat → Int32) (ql : Nat → Int32) (qv : Nat → Int32) (qc : Nat → Int32) (qe : Nat → Int32) (mt : Nat → Int32) (mv : Nat → Int32) (sw : Nat → Int32) (hv : Int32) (tk : Nat → Int32) (tn : Nat → Int32) (sc : Nat → Int32) (p0 : Int32) (p1 : Int32)  (hRn : pf_X2_covers kh fo n qp qm qv p0 p1 ≠ none) (sz : Nat) : vx_Met l yX2_covers wsX2_covers rmX2_covers (va_Pc [.ref (ad 0), .int p0, .int p1] (kv_preX D ci (kv_kw ci ad kc kh ks fo kl kp dy mo n pa aE qp qm ql qv qc qe mt mv sw hv tk tn sc) sz))  (va_Qi (fun (r : Int32) (u : Unit) => pf_X2_covers kh fo n qp qm qv p0 p1 = some (.inl (r))) (fun u t => kv_post D (kv_kw ci ad kc kh ks fo kl kp dy mo n pa aE qp qm ql qv qc qe mt mv sw hv tk tn sc) sz (kv_kw ci ad kc kh ks fo kl kp dy mo n pa aE qp qm ql qv qc qe mt mv sw hv tk tn sc) t) (va_A (kv_kw ci ad kc kh ks fo kl kp dy mo n pa aE qp qm ql qv qc qe mt mv sw hv tk tn sc) sz)) (vx_X (fun u : Nat => pf_X2_covers kh fo n qp qm qv p0 p1 = some (.inr u)) (fun E u t => E = kv_ex u ∧ kv_post D (kv_kw ci ad kc kh ks fo kl kp dy mo n pa aE qp qm ql qv qc qe mt mv sw hv tk tn sc) sz (kv_kw ci ad kc kh ks fo kl kp dy mo n pa aE qp qm ql qv qc qe mt mv sw hv tk tn sc) t) (va_A (kv_kw ci ad kc kh ks fo kl kp dy mo n pa aE qp qm ql qv qc qe mt mv sw hv tk tn sc) sz)) 2 12 (va_A (kv_kw ci ad kc kh ks fo kl kp dy mo n pa aE qp qm ql qv qc qe mt mv sw hv tk tn sc) sz) := by
  refine vx_ofW (cc := cX2_covers) (maxL := 4) (ret := (some .int)) (by decide) rfl ?_
  intro p en s m args below meth c s₁ B hml hex hv
  obtain ⟨hv0, ⟨hsz, hP, hK, hD0⟩, hT⟩ := hv
  have hx := B.exec
  have hb := B.bytes
  have hr := B.returns
  have hts := atoms_spec (ws := wsX2_covers) B.pre
  have hown : s.vm.findClass RX2 = some m.cls := findClass_of_methodNamed B.named
  have hlocks := B.notSynchronized
  subst hsz
  have hD := hD0.self (sz := s.heap.size)
  generalize hAe : va_A (kv_kw ci ad kc kh ks fo kl kp dy mo n pa aE qp qm ql qv qc qe mt mv sw hv tk tn sc) s.heap.size = A at hD hT ⊢
  have hA : ∀ q : Nat, s.heap.size ≤ q → A q := fun q h => by rw [← hAe]; exact Or.inr h
  have hS : va_S A s.heap s.heap [] := va_S.rf
  have hP : va_P D vwCl (kv_kw ci ad kc kh ks fo kl kp dy mo n pa aE qp qm ql qv qc qe mt mv sw hv tk tn sc) s.heap := hP
  have hinRX2 : ∀ w ∈ u_ws RX2 TX2 9, w ∈ wsX2_covers := by decide +kernel
  generalize hRd : pf_X2_covers kh fo n qp qm qv p0 p1 = Rz at hRn
  have hRz := hRn
  refine kv_Q (fun Q hQ => ?_)
  refine W.eq (show entryFrame m args 4 = _ from by rw [hv0, lg_entry_eq]) ?_
  have hl := lv_entry ([.ref (ad 0), .int p0, .int p1]) (n := 4) (Nat.le_of_ble_eq_true rfl)
  generalize (lg_sl ([.ref (ad 0), .int p0, .int p1]) ++ List.replicate (4 - (lg_sl ([.ref (ad 0), .int p0, .int p1])).length) Slot.unset).toArray = ls at hl ⊢
  have hl : lv_has ls 4 [(0, .ref (ad 0)), (1, .int p0), (2, .int p1)] := hl
  have e : Rz = pf_X2_covers kh fo n qp qm qv p0 p1 := hRd.symm
  rw [pf_X2_covers] at e
  refine lv_aload_n hx hb dX2_covers_0 rfl (lv_at hl 0 rfl) ?_
  refine lv_iload_n hx hb dX2_covers_1 rfl (lv_at hl 1 rfl) ?_
  refine kv_xcallq (pa := pa) (n := n) (vx_runV (As := [.int p0]) (rest := []) ⟨hx, hb, hml, hown, hts⟩ (c_X2_rightAt l hl9 D ci ad kc kh ks fo kl kp dy mo n pa aE qp qm ql qv qc qe mt mv sw hv tk tn sc p0 (kv_x1_n e hRz) s.heap.size) (cwV 1 hts gX2_covers_X2_rightAt rfl rfl rfl (by decide +kernel) ⟨Nat.le_of_ble_eq_true rfl, Nat.le_of_ble_eq_true rfl⟩) (kv_preVX hK hP hD hT hS hA (r := (RX2, TX2, 9)) (q0 := 0) (k := 3) rfl rfl rfl) rfl rfl hl.1 rfl (lv_room (Nat.le_of_ble_eq_true rfl)) dX2_covers_2 ⟨Nat.le_of_ble_eq_true rfl, Nat.le_of_ble_eq_true rfl⟩) hD hS hA (fun ce q9 u9 H locs hw9 hP hD hS h1 h2 h3 => ?_) (fun k_2 H locs hk_2 hw_2 hP hD hS => ?_)
  · rw [hQ]
    exact vx_out (fun x h => (hex x h).elim) hlocks h1 h2 h3 (fun t ht hvm => ⟨u9, kv_x1_t e hw9, ⟨rfl, by rw [ht]; exact hP, by rw [hAe]; exact hD⟩, hS.F ht⟩) hS.2.2 (Nat.le_of_ble_eq_true rfl) (Nat.le_of_ble_eq_true rfl)
  have e := kv_x1_e e hw_2
  refine lv_astore_n (lv' := [(3, .ref (pa k_2)), (0, .ref (ad 0)), (1, .int p0), (2, .int p1)]) hx hb dX2_covers_5 rfl hl (by decide) rfl (fun ls hl => ?_)
  refine lv_iload_n hx hb dX2_covers_6 rfl (lv_at hl 3 rfl) ?_
  refine kv_xcallv (vx_runS (As := [.int p1]) (rest := []) ⟨hx, hb, hml, hown, hts⟩ (c_X2_requireMachine l hl9 D ci ad kc kh ks fo kl kp dy mo n pa aE qp qm ql qv qc qe mt mv sw hv tk tn sc p1 (kv_x0_n e hRz) H.size) (va_cwS 1 hts gX2_covers_X2_requireMachine rfl rfl rfl (by decide +kernel) ⟨Nat.le_of_ble_eq_true rfl, Nat.le_of_ble_eq_true rfl⟩) (kv_preSX hK hP hD hT hS hA) rfl rfl hl.1 rfl (lv_room (Nat.le_of_ble_eq_true rfl)) dX2_covers_7 ⟨Nat.le_of_ble_eq_true rfl, Nat.le_of_ble_eq_true rfl⟩) hD hS hA (fun ce q9 u9 H locs hw9 hP hD hS h1 h2 h3 => ?_) (fun u_7 H locs hw_7 hP hD hS => ?_)
  · rw [hQ]
    exact vx_out (fun x h => (hex x h).elim) hlocks h1 h2 h3 (fun t ht hvm => ⟨u9, kv_x0_t e hw9, ⟨rfl, by rw [ht]; exact hP, by rw [hAe]; exact hD⟩, hS.F ht⟩) hS.2.2 (Nat.le_of_ble_eq_true rfl) (Nat.le_of_ble_eq_true rfl)
  have e := kv_x0_e e hw_7
  refine lv_aload_n hx hb dX2_covers_10 rfl (lv_at hl 1 rfl) ?_
  refine lv_aload_n hx hb dX2_covers_11 rfl (lv_at hl 0 rfl) ?_
  refine lv_iload_n hx hb dX2_covers_12 rfl (lv_at hl 3 rfl) ?_
  refine lv_aload_n hx hb dX2_covers_13 rfl (lv_at hl 1 rfl) ?_
  refine va_get (D := D) (ci := 3) (v := .ref (ad 2)) (C := RX2) (T := TX2) (N := 9) hx hb hts hinRX2 hown hK hP 0 rfl rfl 1 (by decide) (hts (.fieldLink RX2 13 "LicenceKeeper" "hosts" "[I") (by decide +kernel)) (fun _ h9 => h9) rfl dX2_covers_14 ?_
  refine kv_calli (va_runV (As := [.ref (pa k_2), .int p1, .ref (ad 2)]) (rest := []) ⟨hx, hb, hml, hown, hts⟩ (c_X2_coverOn l D ci ad kc kh ks fo kl kp dy mo n pa aE qp qm ql qv qc qe mt mv sw hv tk tn sc k_2 p1 kh hk_2 (ad 2) 2 (fun _ _ _ _ _ _ _ => rfl) (kv_q1_n e hRz) H.size) (cwV 3 hts gX2_covers_X2_coverOn rfl rfl rfl (by decide +kernel) ⟨Nat.le_of_ble_eq_true rfl, Nat.le_of_ble_eq_true rfl⟩) (kv_preV hK hP hD (r := (RX2, TX2, 9)) (q0 := 0) (k := 3) rfl rfl rfl) rfl rfl hl.1 rfl (lv_room (Nat.le_of_ble_eq_true rfl)) dX2_covers_17 ⟨Nat.le_of_ble_eq_true rfl, Nat.le_of_ble_eq_true rfl⟩) hD hS hA (fun r_17 u_17 H locs hw_17 hP hD hS => ?_)
  have e := kv_q1_e e hw_17
  rw [hQ]
  refine W.widen (k := 2) (n := 12) (Nat.le_of_ble_eq_true rfl) (Nat.le_of_ble_eq_true rfl) ?_
  refine vx_ret ?_
  exact W.iret (v := r_17) hx hb hr (fun t ht hW => ⟨⟨r_17, (), rfl, e, ⟨by rw [ht]; exact hP, by rw [hAe]; exact hD⟩⟩, hS.F ht⟩) hS.2.2 dX2_covers_20

def pf_X2_gap (kc : Nat → Int32) (kh : Nat → Int32) (fo : Nat → Nat → Int32) (kp : Nat → Int32) (n : Nat) (qp : Nat → Int32) (qm : Nat → Int32) (qv : Nat → Int32) (qc : Nat → Int32) (p0 : Int32) (mt : Nat → Int32) (mv : Nat → Int32) (sw : Nat → Int32) (hv : Int32) (tk : Nat → Int32) : Option ((Int32 × (Nat → Int32) × (Nat → Int32) × (Nat → Int32) × Int32 × (Nat → Int32)) ⊕ Nat) :=
  kv_x0 (pf_X2_requireProduct p0) (kv_q6 (pf_X2_leastUncovered kc fo kp n qp qm qv qc p0 kh mt mv sw hv tk) (fun r_14 o0_14 o1_14 o2_14 o3_14 o4_14 => kv_q1 (pf_X0_weightOfSet o2_14 r_14) (fun r_17 => some (.inl (r_17, o0_14, o1_14, o2_14, o3_14, o4_14)))))
abbrev rmX2_gap : Room := { frames := 7, cells := 1, slots := 6, locals := 112 }
set_option maxHeartbeats 4000000 in
set_option maxRecDepth 100000 in
theorem c_X2_gap (l : Launch) (hl9 : l.stackTraces = false) (D : va_G) (ci ad : Nat → Nat) (kc : Nat → Int32) (kh : Nat → Int32) (ks : Nat → Int32) (fo : Nat → Nat → Int32) (kl : Nat → Int32) (kp : Nat → Int32) (dy : Int32) (mo : Int32) (n : Nat) (pa : Nat → Nat) (aE : Nat) (qp : Nat → Int32) (qm : Nat → Int32) (ql : Nat → Int32) (qv : Nat → Int32) (qc : Nat → Int32) (qe : Nat → Int32) (mt : Nat → Int32) (mv : Nat → Int32) (sw : Nat → Int32) (hv : Int32) (tk : Nat → Int32) (tn : Nat → Int32) (sc : Nat → Int32) (p0 : Int32)  (hRn : pf_X2_gap kc kh fo kp n qp qm qv qc p0 mt mv sw hv tk ≠ none) (sz : Nat) : vx_Met l yX2_gap wsX2_gap rmX2_gap (va_Pc [.ref (ad 0), .int p0] (kv_preX D ci (kv_kw ci ad kc kh ks fo kl kp dy mo n pa aE qp qm ql qv qc qe mt mv sw hv tk tn sc) sz))  (va_Qi (fun (r : Int32) (u : (Nat → Int32) × (Nat → Int32) × (Nat → Int32) × Int32 × (Nat → Int32)) => pf_X2_gap kc kh fo kp n qp qm qv qc p0 mt mv sw hv tk = some (.inl (r, u))) (fun u t => kv_post D (kv_kw ci ad kc kh ks fo kl kp dy mo n pa aE qp qm ql qv qc qe mt mv sw hv tk tn sc) sz (kv_kw ci ad kc kh ks fo kl kp dy mo n pa aE qp qm ql qv qc qe u.1 u.2.1 u.2.2.1 u.2.2.2.1 u.2.2.2.2 tn sc) t) (va_A (kv_kw ci ad kc kh ks fo kl kp dy mo n pa aE qp qm ql qv qc qe mt mv sw hv tk tn sc) sz)) (vx_X (fun u : Nat => pf_X2_gap kc kh fo kp n qp qm qv qc p0 mt mv sw hv tk = some (.inr u)) (fun E u t => E = kv_ex u ∧ kv_post D (kv_kw ci ad kc kh ks fo kl kp dy mo n pa aE qp qm ql qv qc qe mt mv sw hv tk tn sc) sz (kv_kw ci ad kc kh ks fo kl kp dy mo n pa aE qp qm ql qv qc qe mt mv sw hv tk tn sc) t) (va_A (kv_kw ci ad kc kh ks fo kl kp dy mo n pa aE qp qm ql qv qc qe mt mv sw hv tk tn sc) sz)) 1 6 (va_A (kv_kw ci ad kc kh ks fo kl kp dy mo n pa aE qp qm ql qv qc qe mt mv sw hv tk tn sc) sz) := by
  refine vx_ofW (cc := cX2_gap) (maxL := 2) (ret := (some .int)) (by decide) rfl ?_
  intro p en s m args below meth c s₁ B hml hex hv
  obtain ⟨hv0, ⟨hsz, hP, hK, hD0⟩, hT⟩ := hv
  have hx := B.exec
  have hb := B.bytes
  have hr := B.returns
  have hts := atoms_spec (ws := wsX2_gap) B.pre
  have hown : s.vm.findClass RX2 = some m.cls := findClass_of_methodNamed B.named
  have hlocks := B.notSynchronized
  subst hsz
  have hD := hD0.self (sz := s.heap.size)
  generalize hAe : va_A (kv_kw ci ad kc kh ks fo kl kp dy mo n pa aE qp qm ql qv qc qe mt mv sw hv tk tn sc) s.heap.size = A at hD hT ⊢
  have hA : ∀ q : Nat, s.heap.size ≤ q → A q := fun q h => by rw [← hAe]; exact Or.inr h
  have hS : va_S A s.heap s.heap [] := va_S.rf
  have hP : va_P D vwCl (kv_kw ci ad kc kh ks fo kl kp dy mo n pa aE qp qm ql qv qc qe mt mv sw hv tk tn sc) s.heap := hP
  have hinRX2 : ∀ w ∈ u_ws RX2 TX2 9, w ∈ wsX2_gap := by decide +kernel
  generalize hRd : pf_X2_gap kc kh fo kp n qp qm qv qc p0 mt mv sw hv tk = Rz at hRn
  have hRz := hRn
  refine kv_Q (fun Q hQ => ?_)
  refine W.eq (show entryFrame m args 2 = _ from by rw [hv0, lg_entry_eq]) ?_
  have hl := lv_entry ([.ref (ad 0), .int p0]) (n := 2) (Nat.le_of_ble_eq_true rfl)
  generalize (lg_sl ([.ref (ad 0), .int p0]) ++ List.replicate (2 - (lg_sl ([.ref (ad 0), .int p0])).length) Slot.unset).toArray = ls at hl ⊢
  have hl : lv_has ls 2 [(0, .ref (ad 0)), (1, .int p0)] := hl
  have e : Rz = pf_X2_gap kc kh fo kp n qp qm qv qc p0 mt mv sw hv tk := hRd.symm
  rw [pf_X2_gap] at e
  refine lv_iload_n hx hb dX2_gap_0 rfl (lv_at hl 1 rfl) ?_
  refine kv_xcallv (vx_runS (As := [.int p0]) (rest := []) ⟨hx, hb, hml, hown, hts⟩ (c_X2_requireProduct l hl9 D ci ad kc kh ks fo kl kp dy mo n pa aE qp qm ql qv qc qe mt mv sw hv tk tn sc p0 (kv_x0_n e hRz) s.heap.size) (va_cwS 1 hts gX2_gap_X2_requireProduct rfl rfl rfl (by decide +kernel) ⟨Nat.le_of_ble_eq_true rfl, Nat.le_of_ble_eq_true rfl⟩) (kv_preSX hK hP hD hT hS hA) rfl rfl hl.1 rfl (lv_room (Nat.le_of_ble_eq_true rfl)) dX2_gap_1 ⟨Nat.le_of_ble_eq_true rfl, Nat.le_of_ble_eq_true rfl⟩) hD hS hA (fun ce q9 u9 H locs hw9 hP hD hS h1 h2 h3 => ?_) (fun u_1 H locs hw_1 hP hD hS => ?_)
  · rw [hQ]
    exact vx_out (fun x h => (hex x h).elim) hlocks h1 h2 h3 (fun t ht hvm => ⟨u9, kv_x0_t e hw9, ⟨rfl, by rw [ht]; exact hP, by rw [hAe]; exact hD⟩, hS.F ht⟩) hS.2.2 (Nat.le_of_ble_eq_true rfl) (Nat.le_of_ble_eq_true rfl)
  have e := kv_x0_e e hw_1
  refine lv_aload_n hx hb dX2_gap_4 rfl (lv_at hl 0 rfl) ?_
  refine va_get (D := D) (ci := 3) (v := .ref (ad 8)) (C := RX2) (T := TX2) (N := 9) hx hb hts hinRX2 hown hK hP 0 rfl rfl 7 (by decide) (hts (.fieldLink RX2 40 "LicenceKeeper" "layings" "LLicenceKeeper$Layings;") (by decide +kernel)) (fun _ h9 => h9) rfl dX2_gap_5 ?_
  refine lv_aload_n hx hb dX2_gap_8 rfl (lv_at hl 0 rfl) ?_
  refine lv_iload_n hx hb dX2_gap_9 rfl (lv_at hl 1 rfl) ?_
  refine lv_aload_n hx hb dX2_gap_10 rfl (lv_at hl 0 rfl) ?_
  refine va_get (D := D) (ci := 3) (v := .ref (ad 2)) (C := RX2) (T := TX2) (N := 9) hx hb hts hinRX2 hown hK hP 0 rfl rfl 1 (by decide) (hts (.fieldLink RX2 13 "LicenceKeeper" "hosts" "[I") (by decide +kernel)) (fun _ h9 => h9) rfl dX2_gap_11 ?_
  refine kv_calli (va_runV (As := [.int p0, .ref (ad 2)]) (rest := [.ref (ad 8)]) ⟨hx, hb, hml, hown, hts⟩ (c_X2_leastUncovered l D ci ad kc kh ks fo kl kp dy mo n pa aE qp qm ql qv qc qe mt mv sw hv tk tn sc p0 kh (ad 2) 2 (fun _ _ _ _ _ _ _ => rfl) (kv_q6_n e hRz) H.size) (cwV 2 hts gX2_gap_X2_leastUncovered rfl rfl rfl (by decide +kernel) ⟨Nat.le_of_ble_eq_true rfl, Nat.le_of_ble_eq_true rfl⟩) (kv_preV hK hP hD (r := (RX2, TX2, 9)) (q0 := 0) (k := 3) rfl rfl rfl) rfl rfl hl.1 rfl (lv_room (Nat.le_of_ble_eq_true rfl)) dX2_gap_14 ⟨Nat.le_of_ble_eq_true rfl, Nat.le_of_ble_eq_true rfl⟩) hD hS hA (fun r_14 u_14 H locs hw_14 hP hD hS => ?_)
  obtain ⟨o0_14, o1_14, o2_14, o3_14, o4_14⟩ := u_14
  have e := kv_q6_e e hw_14
  have hP : va_P D vwCl (kv_kw ci ad kc kh ks fo kl kp dy mo n pa aE qp qm ql qv qc qe o0_14 o1_14 o2_14 o3_14 o4_14 tn sc) H := hP
  have hD : va_D A (kv_kw ci ad kc kh ks fo kl kp dy mo n pa aE qp qm ql qv qc qe o0_14 o1_14 o2_14 o3_14 o4_14 tn sc) := hD
  refine kv_calli (va_runV (As := [.int r_14]) (rest := []) ⟨hx, hb, hml, hown, hts⟩ (c_X0_weightOfSet l D ci ad kc kh ks fo kl kp dy mo n pa aE qp qm ql qv qc qe o0_14 o1_14 o2_14 o3_14 o4_14 tn sc r_14 (kv_q1_n e hRz) H.size) (cwV 1 hts gX2_gap_X0_weightOfSet rfl rfl rfl (by decide +kernel) ⟨Nat.le_of_ble_eq_true rfl, Nat.le_of_ble_eq_true rfl⟩) (kv_preV hK hP hD (r := (RX0, TX0, 7)) (q0 := 8) (k := 1) rfl rfl rfl) rfl rfl hl.1 rfl (lv_room (Nat.le_of_ble_eq_true rfl)) dX2_gap_17 ⟨Nat.le_of_ble_eq_true rfl, Nat.le_of_ble_eq_true rfl⟩) hD hS hA (fun r_17 u_17 H locs hw_17 hP hD hS => ?_)
  have e := kv_q1_e e hw_17
  rw [hQ]
  refine W.widen (k := 1) (n := 6) (Nat.le_of_ble_eq_true rfl) (Nat.le_of_ble_eq_true rfl) ?_
  refine vx_ret ?_
  exact W.iret (v := r_17) hx hb hr (fun t ht hW => ⟨⟨r_17, (o0_14, o1_14, o2_14, o3_14, o4_14), rfl, e, ⟨by rw [ht]; exact hP, by rw [hAe]; exact hD⟩⟩, hS.F ht⟩) hS.2.2 dX2_gap_20

def pf_X2_uncovered (kc : Nat → Int32) (kh : Nat → Int32) (fo : Nat → Nat → Int32) (kp : Nat → Int32) (n : Nat) (qp : Nat → Int32) (qm : Nat → Int32) (qv : Nat → Int32) (qc : Nat → Int32) (p0 : Int32) (mt : Nat → Int32) (mv : Nat → Int32) (sw : Nat → Int32) (hv : Int32) (tk : Nat → Int32) : Option ((Int32 × (Nat → Int32) × (Nat → Int32) × (Nat → Int32) × Int32 × (Nat → Int32)) ⊕ Nat) :=
  kv_x0 (pf_X2_requireProduct p0) (kv_q6 (pf_X2_leastUncovered kc fo kp n qp qm qv qc p0 kh mt mv sw hv tk) (fun r_10 o0_10 o1_10 o2_10 o3_10 o4_10 => some (.inl (r_10, o0_10, o1_10, o2_10, o3_10, o4_10))))
abbrev rmX2_uncovered : Room := { frames := 7, cells := 1, slots := 6, locals := 112 }
set_option maxHeartbeats 4000000 in
set_option maxRecDepth 100000 in
theorem c_X2_uncovered (l : Launch) (hl9 : l.stackTraces = false) (D : va_G) (ci ad : Nat → Nat) (kc : Nat → Int32) (kh : Nat → Int32) (ks : Nat → Int32) (fo : Nat → Nat → Int32) (kl : Nat → Int32) (kp : Nat → Int32) (dy : Int32) (mo : Int32) (n : Nat) (pa : Nat → Nat) (aE : Nat) (qp : Nat → Int32) (qm : Nat → Int32) (ql : Nat → Int32) (qv : Nat → Int32) (qc : Nat → Int32) (qe : Nat → Int32) (mt : Nat → Int32) (mv : Nat → Int32) (sw : Nat → Int32) (hv : Int32) (tk : Nat → Int32) (tn : Nat → Int32) (sc : Nat → Int32) (p0 : Int32)  (hRn : pf_X2_uncovered kc kh fo kp n qp qm qv qc p0 mt mv sw hv tk ≠ none) (sz : Nat) : vx_Met l yX2_uncovered wsX2_uncovered rmX2_uncovered (va_Pc [.ref (ad 0), .int p0] (kv_preX D ci (kv_kw ci ad kc kh ks fo kl kp dy mo n pa aE qp qm ql qv qc qe mt mv sw hv tk tn sc) sz))  (va_Qi (fun (r : Int32) (u : (Nat → Int32) × (Nat → Int32) × (Nat → Int32) × Int32 × (Nat → Int32)) => pf_X2_uncovered kc kh fo kp n qp qm qv qc p0 mt mv sw hv tk = some (.inl (r, u))) (fun u t => kv_post D (kv_kw ci ad kc kh ks fo kl kp dy mo n pa aE qp qm ql qv qc qe mt mv sw hv tk tn sc) sz (kv_kw ci ad kc kh ks fo kl kp dy mo n pa aE qp qm ql qv qc qe u.1 u.2.1 u.2.2.1 u.2.2.2.1 u.2.2.2.2 tn sc) t) (va_A (kv_kw ci ad kc kh ks fo kl kp dy mo n pa aE qp qm ql qv qc qe mt mv sw hv tk tn sc) sz)) (vx_X (fun u : Nat => pf_X2_uncovered kc kh fo kp n qp qm qv qc p0 mt mv sw hv tk = some (.inr u)) (fun E u t => E = kv_ex u ∧ kv_post D (kv_kw ci ad kc kh ks fo kl kp dy mo n pa aE qp qm ql qv qc qe mt mv sw hv tk tn sc) sz (kv_kw ci ad kc kh ks fo kl kp dy mo n pa aE qp qm ql qv qc qe mt mv sw hv tk tn sc) t) (va_A (kv_kw ci ad kc kh ks fo kl kp dy mo n pa aE qp qm ql qv qc qe mt mv sw hv tk tn sc) sz)) 1 6 (va_A (kv_kw ci ad kc kh ks fo kl kp dy mo n pa aE qp qm ql qv qc qe mt mv sw hv tk tn sc) sz) := by
  refine vx_ofW (cc := cX2_uncovered) (maxL := 2) (ret := (some .int)) (by decide) rfl ?_
  intro p en s m args below meth c s₁ B hml hex hv
  obtain ⟨hv0, ⟨hsz, hP, hK, hD0⟩, hT⟩ := hv
  have hx := B.exec
  have hb := B.bytes
  have hr := B.returns
  have hts := atoms_spec (ws := wsX2_uncovered) B.pre
  have hown : s.vm.findClass RX2 = some m.cls := findClass_of_methodNamed B.named
  have hlocks := B.notSynchronized
  subst hsz
  have hD := hD0.self (sz := s.heap.size)
  generalize hAe : va_A (kv_kw ci ad kc kh ks fo kl kp dy mo n pa aE qp qm ql qv qc qe mt mv sw hv tk tn sc) s.heap.size = A at hD hT ⊢
  have hA : ∀ q : Nat, s.heap.size ≤ q → A q := fun q h => by rw [← hAe]; exact Or.inr h
  have hS : va_S A s.heap s.heap [] := va_S.rf
  have hP : va_P D vwCl (kv_kw ci ad kc kh ks fo kl kp dy mo n pa aE qp qm ql qv qc qe mt mv sw hv tk tn sc) s.heap := hP
  have hinRX2 : ∀ w ∈ u_ws RX2 TX2 9, w ∈ wsX2_uncovered := by decide +kernel
  generalize hRd : pf_X2_uncovered kc kh fo kp n qp qm qv qc p0 mt mv sw hv tk = Rz at hRn
  have hRz := hRn
  refine kv_Q (fun Q hQ => ?_)
  refine W.eq (show entryFrame m args 2 = _ from by rw [hv0, lg_entry_eq]) ?_
  have hl := lv_entry ([.ref (ad 0), .int p0]) (n := 2) (Nat.le_of_ble_eq_true rfl)
  generalize (lg_sl ([.ref (ad 0), .int p0]) ++ List.replicate (2 - (lg_sl ([.ref (ad 0), .int p0])).length) Slot.unset).toArray = ls at hl ⊢
  have hl : lv_has ls 2 [(0, .ref (ad 0)), (1, .int p0)] := hl
  have e : Rz = pf_X2_uncovered kc kh fo kp n qp qm qv qc p0 mt mv sw hv tk := hRd.symm
  rw [pf_X2_uncovered] at e
  refine lv_iload_n hx hb dX2_uncovered_0 rfl (lv_at hl 1 rfl) ?_
  refine kv_xcallv (vx_runS (As := [.int p0]) (rest := []) ⟨hx, hb, hml, hown, hts⟩ (c_X2_requireProduct l hl9 D ci ad kc kh ks fo kl kp dy mo n pa aE qp qm ql qv qc qe mt mv sw hv tk tn sc p0 (kv_x0_n e hRz) s.heap.size) (va_cwS 1 hts gX2_uncovered_X2_requireProduct rfl rfl rfl (by decide +kernel) ⟨Nat.le_of_ble_eq_true rfl, Nat.le_of_ble_eq_true rfl⟩) (kv_preSX hK hP hD hT hS hA) rfl rfl hl.1 rfl (lv_room (Nat.le_of_ble_eq_true rfl)) dX2_uncovered_1 ⟨Nat.le_of_ble_eq_true rfl, Nat.le_of_ble_eq_true rfl⟩) hD hS hA (fun ce q9 u9 H locs hw9 hP hD hS h1 h2 h3 => ?_) (fun u_1 H locs hw_1 hP hD hS => ?_)
  · rw [hQ]
    exact vx_out (fun x h => (hex x h).elim) hlocks h1 h2 h3 (fun t ht hvm => ⟨u9, kv_x0_t e hw9, ⟨rfl, by rw [ht]; exact hP, by rw [hAe]; exact hD⟩, hS.F ht⟩) hS.2.2 (Nat.le_of_ble_eq_true rfl) (Nat.le_of_ble_eq_true rfl)
  have e := kv_x0_e e hw_1
  refine lv_aload_n hx hb dX2_uncovered_4 rfl (lv_at hl 0 rfl) ?_
  refine lv_iload_n hx hb dX2_uncovered_5 rfl (lv_at hl 1 rfl) ?_
  refine lv_aload_n hx hb dX2_uncovered_6 rfl (lv_at hl 0 rfl) ?_
  refine va_get (D := D) (ci := 3) (v := .ref (ad 2)) (C := RX2) (T := TX2) (N := 9) hx hb hts hinRX2 hown hK hP 0 rfl rfl 1 (by decide) (hts (.fieldLink RX2 13 "LicenceKeeper" "hosts" "[I") (by decide +kernel)) (fun _ h9 => h9) rfl dX2_uncovered_7 ?_
  refine kv_calli (va_runV (As := [.int p0, .ref (ad 2)]) (rest := []) ⟨hx, hb, hml, hown, hts⟩ (c_X2_leastUncovered l D ci ad kc kh ks fo kl kp dy mo n pa aE qp qm ql qv qc qe mt mv sw hv tk tn sc p0 kh (ad 2) 2 (fun _ _ _ _ _ _ _ => rfl) (kv_q6_n e hRz) H.size) (cwV 2 hts gX2_uncovered_X2_leastUncovered rfl rfl rfl (by decide +kernel) ⟨Nat.le_of_ble_eq_true rfl, Nat.le_of_ble_eq_true rfl⟩) (kv_preV hK hP hD (r := (RX2, TX2, 9)) (q0 := 0) (k := 3) rfl rfl rfl) rfl rfl hl.1 rfl (lv_room (Nat.le_of_ble_eq_true rfl)) dX2_uncovered_10 ⟨Nat.le_of_ble_eq_true rfl, Nat.le_of_ble_eq_true rfl⟩) hD hS hA (fun r_10 u_10 H locs hw_10 hP hD hS => ?_)
  obtain ⟨o0_10, o1_10, o2_10, o3_10, o4_10⟩ := u_10
  have e := kv_q6_e e hw_10
  have hP : va_P D vwCl (kv_kw ci ad kc kh ks fo kl kp dy mo n pa aE qp qm ql qv qc qe o0_10 o1_10 o2_10 o3_10 o4_10 tn sc) H := hP
  have hD : va_D A (kv_kw ci ad kc kh ks fo kl kp dy mo n pa aE qp qm ql qv qc qe o0_10 o1_10 o2_10 o3_10 o4_10 tn sc) := hD
  rw [hQ]
  refine W.widen (k := 1) (n := 6) (Nat.le_of_ble_eq_true rfl) (Nat.le_of_ble_eq_true rfl) ?_
  refine vx_ret ?_
  exact W.iret (v := r_10) hx hb hr (fun t ht hW => ⟨⟨r_10, (o0_10, o1_10, o2_10, o3_10, o4_10), rfl, e, ⟨by rw [ht]; exact hP, by rw [hAe]; exact hD⟩⟩, hS.F ht⟩) hS.2.2 dX2_uncovered_13

def pf_X2_gapByAll_16b (kc : Nat → Int32) (kh : Nat → Int32) (fo : Nat → Nat → Int32) (kp : Nat → Int32) (n : Nat) (qp : Nat → Int32) (qm : Nat → Int32) (qv : Nat → Int32) (qc : Nat → Int32) (p0 : Int32)  (k_16 : Int32 → (Nat → Int32) → (Nat → Int32) → (Nat → Int32) → Int32 → (Nat → Int32) → (Nat → Int32) → (Nat → Int32) → Option ((Int32 × (Nat → Int32) × (Nat → Int32) × (Nat → Int32) × Int32 × (Nat → Int32) × (Nat → Int32) × (Nat → Int32)) ⊕ Nat)) (x2 : Int32) (mt : Nat → Int32) (mv : Nat → Int32) (sw : Nat → Int32) (hv : Int32) (tk : Nat → Int32) (tn : Nat → Int32) (sc : Nat → Int32) : Option ((Int32 × (Nat → Int32) × (Nat → Int32) × (Nat → Int32) × Int32 × (Nat → Int32) × (Nat → Int32) × (Nat → Int32)) ⊕ Nat) :=
  if (nI n) ≤ x2 then kv_q1 (pf_X0_leastUncoveredWithin sw hv tk 0) (fun r_89 => kv_q1 (pf_X0_weightOfSet sw r_89) (fun r_92 => some (.inl (r_92, mt, mv, sw, hv, tk, tn, sc)))) else kv_L x2 n (kv_T x2.toNatClampNeg (fun k_32 => if (qp k_32) = p0 then if (qc k_32) ≤ 0 then k_16 (x2 + 1) mt mv sw hv tk tn sc else kv_q2 (pf_X2_takeUp kc fo n qp qm qv k_32 kh mt mv) (fun o0_60 o1_60 => kv_q3 (pf_X0_layOnAllSets o0_60 o1_60 (qc k_32) tk tn sc) (fun o0_71 o1_71 o2_71 => k_16 (x2 + 1) o0_60 o1_60 sw hv o0_71 o1_71 o2_71)) else k_16 (x2 + 1) mt mv sw hv tk tn sc))
def pf_X2_gapByAll_16 (kc : Nat → Int32) (kh : Nat → Int32) (fo : Nat → Nat → Int32) (kp : Nat → Int32) (n : Nat) (qp : Nat → Int32) (qm : Nat → Int32) (qv : Nat → Int32) (qc : Nat → Int32) (p0 : Int32)  : Nat → Int32 → (Nat → Int32) → (Nat → Int32) → (Nat → Int32) → Int32 → (Nat → Int32) → (Nat → Int32) → (Nat → Int32) → Option ((Int32 × (Nat → Int32) × (Nat → Int32) × (Nat → Int32) × Int32 × (Nat → Int32) × (Nat → Int32) × (Nat → Int32)) ⊕ Nat)
  | 0, _, _, _, _, _, _, _, _ => none
  | nn + 1, x2, mt, mv, sw, hv, tk, tn, sc => pf_X2_gapByAll_16b kc kh fo kp n qp qm qv qc p0  (pf_X2_gapByAll_16 kc kh fo kp n qp qm qv qc p0  nn) x2 mt mv sw hv tk tn sc
def pf_X2_gapByAll (kc : Nat → Int32) (kh : Nat → Int32) (fo : Nat → Nat → Int32) (kp : Nat → Int32) (n : Nat) (qp : Nat → Int32) (qm : Nat → Int32) (qv : Nat → Int32) (qc : Nat → Int32) (p0 : Int32) (mt : Nat → Int32) (mv : Nat → Int32) (sw : Nat → Int32) (hv : Int32) (tk : Nat → Int32) (tn : Nat → Int32) (sc : Nat → Int32) : Option ((Int32 × (Nat → Int32) × (Nat → Int32) × (Nat → Int32) × Int32 × (Nat → Int32) × (Nat → Int32) × (Nat → Int32)) ⊕ Nat) :=
  kv_x0 (pf_X2_requireProduct p0) (kv_x0 (pf_X2_requireFewRights n qp qc p0) (kv_q3 (pf_X2_startLayings kc fo kp p0 sw hv tk) (fun o0_11 o1_11 o2_11 => pf_X2_gapByAll_16 kc kh fo kp n qp qm qv qc p0 kv_F 0 mt mv o0_11 o1_11 o2_11 tn sc)))
abbrev rmX2_gapByAll : Room := { frames := 7, cells := 2, slots := 12, locals := 106 }
set_option maxHeartbeats 4000000 in
set_option maxRecDepth 100000 in
theorem c_X2_gapByAll (l : Launch) (hl9 : l.stackTraces = false) (D : va_G) (ci ad : Nat → Nat) (kc : Nat → Int32) (kh : Nat → Int32) (ks : Nat → Int32) (fo : Nat → Nat → Int32) (kl : Nat → Int32) (kp : Nat → Int32) (dy : Int32) (mo : Int32) (n : Nat) (pa : Nat → Nat) (aE : Nat) (qp : Nat → Int32) (qm : Nat → Int32) (ql : Nat → Int32) (qv : Nat → Int32) (qc : Nat → Int32) (qe : Nat → Int32) (mt : Nat → Int32) (mv : Nat → Int32) (sw : Nat → Int32) (hv : Int32) (tk : Nat → Int32) (tn : Nat → Int32) (sc : Nat → Int32) (p0 : Int32)  (hRn : pf_X2_gapByAll kc kh fo kp n qp qm qv qc p0 mt mv sw hv tk tn sc ≠ none) (sz : Nat) : vx_Met l yX2_gapByAll wsX2_gapByAll rmX2_gapByAll (va_Pc [.ref (ad 0), .int p0] (kv_preX D ci (kv_kw ci ad kc kh ks fo kl kp dy mo n pa aE qp qm ql qv qc qe mt mv sw hv tk tn sc) sz))  (va_Qi (fun (r : Int32) (u : (Nat → Int32) × (Nat → Int32) × (Nat → Int32) × Int32 × (Nat → Int32) × (Nat → Int32) × (Nat → Int32)) => pf_X2_gapByAll kc kh fo kp n qp qm qv qc p0 mt mv sw hv tk tn sc = some (.inl (r, u))) (fun u t => kv_post D (kv_kw ci ad kc kh ks fo kl kp dy mo n pa aE qp qm ql qv qc qe mt mv sw hv tk tn sc) sz (kv_kw ci ad kc kh ks fo kl kp dy mo n pa aE qp qm ql qv qc qe u.1 u.2.1 u.2.2.1 u.2.2.2.1 u.2.2.2.2.1 u.2.2.2.2.2.1 u.2.2.2.2.2.2) t) (va_A (kv_kw ci ad kc kh ks fo kl kp dy mo n pa aE qp qm ql qv qc qe mt mv sw hv tk tn sc) sz)) (vx_X (fun u : Nat => pf_X2_gapByAll kc kh fo kp n qp qm qv qc p0 mt mv sw hv tk tn sc = some (.inr u)) (fun E u t => E = kv_ex u ∧ kv_post D (kv_kw ci ad kc kh ks fo kl kp dy mo n pa aE qp qm ql qv qc qe mt mv sw hv tk tn sc) sz (kv_kw ci ad kc kh ks fo kl kp dy mo n pa aE qp qm ql qv qc qe mt mv sw hv tk tn sc) t) (va_A (kv_kw ci ad kc kh ks fo kl kp dy mo n pa aE qp qm ql qv qc qe mt mv sw hv tk tn sc) sz)) 2 12 (va_A (kv_kw ci ad kc kh ks fo kl kp dy mo n pa aE qp qm ql qv qc qe mt mv sw hv tk tn sc) sz) := by
  refine vx_ofW (cc := cX2_gapByAll) (maxL := 4) (ret := (some .int)) (by decide) rfl ?_
  intro p en s m args below meth c s₁ B hml hex hv
  obtain ⟨hv0, ⟨hsz, hP, hK, hD0⟩, hT⟩ := hv
  have hx := B.exec
  have hb := B.bytes
  have hr := B.returns
  have hts := atoms_spec (ws := wsX2_gapByAll) B.pre
  have hown : s.vm.findClass RX2 = some m.cls := findClass_of_methodNamed B.named
  have hlocks := B.notSynchronized
  subst hsz
  have hD := hD0.self (sz := s.heap.size)
  generalize hAe : va_A (kv_kw ci ad kc kh ks fo kl kp dy mo n pa aE qp qm ql qv qc qe mt mv sw hv tk tn sc) s.heap.size = A at hD hT ⊢
  have hA : ∀ q : Nat, s.heap.size ≤ q → A q := fun q h => by rw [← hAe]; exact Or.inr h
  have hS : va_S A s.heap s.heap [] := va_S.rf
  have hP : va_P D vwCl (kv_kw ci ad kc kh ks fo kl kp dy mo n pa aE qp qm ql qv qc qe mt mv sw hv tk tn sc) s.heap := hP
  have hinRX2 : ∀ w ∈ u_ws RX2 TX2 9, w ∈ wsX2_gapByAll := by decide +kernel
  have hinRX1 : ∀ w ∈ u_ws RX1 TX1 6, w ∈ wsX2_gapByAll := by decide +kernel
  generalize hRd : pf_X2_gapByAll kc kh fo kp n qp qm qv qc p0 mt mv sw hv tk tn sc = Rz at hRn
  have hRz := hRn
  refine kv_Q (fun Q hQ => ?_)
  refine W.eq (show entryFrame m args 4 = _ from by rw [hv0, lg_entry_eq]) ?_
  have hl := lv_entry ([.ref (ad 0), .int p0]) (n := 4) (Nat.le_of_ble_eq_true rfl)
  generalize (lg_sl ([.ref (ad 0), .int p0]) ++ List.replicate (4 - (lg_sl ([.ref (ad 0), .int p0])).length) Slot.unset).toArray = ls at hl ⊢
  have hl : lv_has ls 4 [(0, .ref (ad 0)), (1, .int p0)] := hl
  have e : Rz = pf_X2_gapByAll kc kh fo kp n qp qm qv qc p0 mt mv sw hv tk tn sc := hRd.symm
  rw [pf_X2_gapByAll] at e
  have hb_16 : ∀ (n_16 : Nat), ∀ (x2 : Int32) (mt : Nat → Int32) (mv : Nat → Int32) (sw : Nat → Int32) (hv : Int32) (tk : Nat → Int32) (tn : Nat → Int32) (sc : Nat → Int32) (H : Heap) (locs : List Loc) (ls : Array Slot), va_P D vwCl (kv_kw ci ad kc kh ks fo kl kp dy mo n pa aE qp qm ql qv qc qe mt mv sw hv tk tn sc) H → va_D A (kv_kw ci ad kc kh ks fo kl kp dy mo n pa aE qp qm ql qv qc qe mt mv sw hv tk tn sc) → va_S A s.heap H locs → lv_has ls 4 [(0, .ref (ad 0)), (1, .int p0), (2, .int x2)] → Rz = pf_X2_gapByAll_16 kc kh fo kp n qp qm qv qc p0  n_16 x2 mt mv sw hv tk tn sc → W p l en rmX2_gapByAll s m args below meth c H locs 2 12 Q (F0 m 16 ls []) := by
    intro n_16
    induction n_16 with
    | zero =>
      intro x2 mt mv sw hv tk tn sc H locs ls  _ _ _ _ e
      exact absurd e hRz
    | succ n_16 ih_16 =>
      intro x2 mt mv sw hv tk tn sc H locs ls  hP hD hS hl e
      rw [pf_X2_gapByAll_16, pf_X2_gapByAll_16b] at e
      refine lv_iload_n hx hb dX2_gapByAll_16 rfl (lv_at hl 2 rfl) ?_
      refine lv_aload_n hx hb dX2_gapByAll_17 rfl (lv_at hl 0 rfl) ?_
      refine va_get (D := D) (ci := 3) (v := .ref (ad 7)) (C := RX2) (T := TX2) (N := 9) hx hb hts hinRX2 hown hK hP 0 rfl rfl 6 (by decide) (hts (.fieldLink RX2 33 "LicenceKeeper" "held" "Ljava/util/ArrayList;") (by decide +kernel)) (fun _ h9 => h9) rfl dX2_gapByAll_18 ?_
      refine kv_calli (va_runV (As := []) (rest := [.int x2]) ⟨hx, hb, hml, hown, hts⟩ (c_K_size l D ci ad kc kh ks fo kl kp dy mo n pa aE qp qm ql qv qc qe mt mv sw hv tk tn sc H.size) (cwV 0 hts gX2_gapByAll_Jx4a65c_size_8abf5 rfl rfl rfl (by decide +kernel) ⟨Nat.le_of_ble_eq_true rfl, Nat.le_of_ble_eq_true rfl⟩) (kv_preV hK hP hD (r := (RJx4a65c, TJx4a65c, 3)) (q0 := 7) (k := 0) rfl rfl rfl) rfl rfl hl.1 rfl (lv_room (Nat.le_of_ble_eq_true rfl)) dX2_gapByAll_21 ⟨Nat.le_of_ble_eq_true rfl, Nat.le_of_ble_eq_true rfl⟩) hD hS hA (fun r_21 u_21 H locs hw_21 hP hD hS => ?_)
      subst hw_21
      refine lv_icmp_ge (tgt := 80) hx hb dX2_gapByAll_24 (by decide) (fun c_24 => ?_) (fun c_24 => ?_)
      · have e := e.trans (if_pos c_24)
        refine lv_aload_n hx hb dX2_gapByAll_80 rfl (lv_at hl 0 rfl) ?_
        refine va_get (D := D) (ci := 3) (v := .ref (ad 8)) (C := RX2) (T := TX2) (N := 9) hx hb hts hinRX2 hown hK hP 0 rfl rfl 7 (by decide) (hts (.fieldLink RX2 40 "LicenceKeeper" "layings" "LLicenceKeeper$Layings;") (by decide +kernel)) (fun _ h9 => h9) rfl dX2_gapByAll_81 ?_
        refine lv_aload_n hx hb dX2_gapByAll_84 rfl (lv_at hl 0 rfl) ?_
        refine va_get (D := D) (ci := 3) (v := .ref (ad 8)) (C := RX2) (T := TX2) (N := 9) hx hb hts hinRX2 hown hK hP 0 rfl rfl 7 (by decide) (hts (.fieldLink RX2 40 "LicenceKeeper" "layings" "LLicenceKeeper$Layings;") (by decide +kernel)) (fun _ h9 => h9) rfl dX2_gapByAll_85 ?_
        refine lv_iconst (v := 0) hx hb dX2_gapByAll_88 (by decide) ?_
        refine kv_calli (va_runV (As := [.int 0]) (rest := [.ref (ad 8)]) ⟨hx, hb, hml, hown, hts⟩ (c_X0_leastUncoveredWithin l D ci ad kc kh ks fo kl kp dy mo n pa aE qp qm ql qv qc qe mt mv sw hv tk tn sc 0 (kv_q1_n e hRz) H.size) (cwV 1 hts gX2_gapByAll_X0_leastUncoveredWithin rfl rfl rfl (by decide +kernel) ⟨Nat.le_of_ble_eq_true rfl, Nat.le_of_ble_eq_true rfl⟩) (kv_preV hK hP hD (r := (RX0, TX0, 7)) (q0 := 8) (k := 1) rfl rfl rfl) rfl rfl hl.1 rfl (lv_room (Nat.le_of_ble_eq_true rfl)) dX2_gapByAll_89 ⟨Nat.le_of_ble_eq_true rfl, Nat.le_of_ble_eq_true rfl⟩) hD hS hA (fun r_89 u_89 H locs hw_89 hP hD hS => ?_)
        have e := kv_q1_e e hw_89
        refine kv_calli (va_runV (As := [.int r_89]) (rest := []) ⟨hx, hb, hml, hown, hts⟩ (c_X0_weightOfSet l D ci ad kc kh ks fo kl kp dy mo n pa aE qp qm ql qv qc qe mt mv sw hv tk tn sc r_89 (kv_q1_n e hRz) H.size) (cwV 1 hts gX2_gapByAll_X0_weightOfSet rfl rfl rfl (by decide +kernel) ⟨Nat.le_of_ble_eq_true rfl, Nat.le_of_ble_eq_true rfl⟩) (kv_preV hK hP hD (r := (RX0, TX0, 7)) (q0 := 8) (k := 1) rfl rfl rfl) rfl rfl hl.1 rfl (lv_room (Nat.le_of_ble_eq_true rfl)) dX2_gapByAll_92 ⟨Nat.le_of_ble_eq_true rfl, Nat.le_of_ble_eq_true rfl⟩) hD hS hA (fun r_92 u_92 H locs hw_92 hP hD hS => ?_)
        have e := kv_q1_e e hw_92
        rw [hQ]
        refine W.widen (k := 2) (n := 12) (Nat.le_of_ble_eq_true rfl) (Nat.le_of_ble_eq_true rfl) ?_
        refine vx_ret ?_
        exact W.iret (v := r_92) hx hb hr (fun t ht hW => ⟨⟨r_92, (mt, mv, sw, hv, tk, tn, sc), rfl, e, ⟨by rw [ht]; exact hP, by rw [hAe]; exact hD⟩⟩, hS.F ht⟩) hS.2.2 dX2_gapByAll_95
      · have e := e.trans (if_neg c_24)
        refine lv_aload_n hx hb dX2_gapByAll_27 rfl (lv_at hl 0 rfl) ?_
        refine va_get (D := D) (ci := 3) (v := .ref (ad 7)) (C := RX2) (T := TX2) (N := 9) hx hb hts hinRX2 hown hK hP 0 rfl rfl 6 (by decide) (hts (.fieldLink RX2 33 "LicenceKeeper" "held" "Ljava/util/ArrayList;") (by decide +kernel)) (fun _ h9 => h9) rfl dX2_gapByAll_28 ?_
        refine lv_iload_n hx hb dX2_gapByAll_31 rfl (lv_at hl 2 rfl) ?_
        obtain ⟨hi_32, hn_32, e⟩ := kv_L_e e hRz
        refine kv_callq (pa := pa) (n := n) (va_runV (As := [.int x2]) (rest := []) ⟨hx, hb, hml, hown, hts⟩ (c_K_get l D ci ad kc kh ks fo kl kp dy mo n pa aE qp qm ql qv qc qe mt mv sw hv tk tn sc x2 hi_32 hn_32 H.size) (cwV 1 hts gX2_gapByAll_Jx4a65c_get_915e3 rfl rfl rfl (by decide +kernel) ⟨Nat.le_of_ble_eq_true rfl, Nat.le_of_ble_eq_true rfl⟩) (kv_preV hK hP hD (r := (RJx4a65c, TJx4a65c, 3)) (q0 := 7) (k := 0) rfl rfl rfl) rfl rfl hl.1 rfl (lv_room (Nat.le_of_ble_eq_true rfl)) dX2_gapByAll_32 ⟨Nat.le_of_ble_eq_true rfl, Nat.le_of_ble_eq_true rfl⟩) hD hS hA (fun k_32 H locs hk_32 ek_32 hP hD hS => ?_)
        have e := kv_T_e e ek_32
        refine va_castS hx hb hown (hts (.classLink RX2 84 "LicenceKeeper$Right") (by decide +kernel)) (hK.1 2 _ rfl).2 (va_recv hK hP (ci := 2) (q0 := 24 + k_32) rfl (kv_rt hk_32)) dX2_gapByAll_35 ?_
        refine lv_astore_n (lv' := [(3, .ref (pa k_32)), (0, .ref (ad 0)), (1, .int p0), (2, .int x2)]) hx hb dX2_gapByAll_38 rfl hl (by decide) rfl (fun ls hl => ?_)
        refine lv_aload_n hx hb dX2_gapByAll_39 rfl (lv_at hl 0 rfl) ?_
        refine va_get (D := D) (ci := 2) (v := .int (qp k_32)) (C := RX1) (T := TX1) (N := 6) hx hb hts hinRX1 hown hK hP (24 + k_32) (kv_rt hk_32) rfl 0 (by decide) (hts (.fieldLink RX2 86 "LicenceKeeper$Right" "product" "I") (by decide +kernel)) (fun _ h9 => h9) rfl dX2_gapByAll_40 ?_
        refine lv_iload_n hx hb dX2_gapByAll_43 rfl (lv_at hl 2 rfl) ?_
        refine lv_icmp_ne (tgt := 74) hx hb dX2_gapByAll_44 (by decide) (fun c_44 => ?_) (fun c_44 => ?_)
        · have e := e.trans (if_neg c_44)
          refine lv_iinc (v := x2 + 1) (lv' := [(2, .int (x2 + 1)), (3, .ref (pa k_32)), (0, .ref (ad 0)), (1, .int p0)]) hx hb dX2_gapByAll_74 hl (k := 3) rfl rfl (by decide) rfl (fun ls hl => ?_)
          refine lv_goto (tgt := 16) hx hb dX2_gapByAll_77 (by decide) ?_
          exact ih_16 (x2 + 1) mt mv sw hv tk tn sc _ _ _  hP hD hS (lv_sub hl [2, 3, 0] rfl) e
        · have e := e.trans (if_pos c_44)
          refine lv_aload_n hx hb dX2_gapByAll_47 rfl (lv_at hl 0 rfl) ?_
          refine va_get (D := D) (ci := 2) (v := .int (qc k_32)) (C := RX1) (T := TX1) (N := 6) hx hb hts hinRX1 hown hK hP (24 + k_32) (kv_rt hk_32) rfl 4 (by decide) (hts (.fieldLink RX2 112 "LicenceKeeper$Right" "count" "I") (by decide +kernel)) (fun _ h9 => h9) rfl dX2_gapByAll_48 ?_
          refine lv_if_le (tgt := 74) hx hb dX2_gapByAll_51 (by decide) (fun c_51 => ?_) (fun c_51 => ?_)
          · have e := e.trans (if_pos c_51)
            refine lv_iinc (v := x2 + 1) (lv' := [(2, .int (x2 + 1)), (3, .ref (pa k_32)), (0, .ref (ad 0)), (1, .int p0)]) hx hb dX2_gapByAll_74 hl (k := 3) rfl rfl (by decide) rfl (fun ls hl => ?_)
            refine lv_goto (tgt := 16) hx hb dX2_gapByAll_77 (by decide) ?_
            exact ih_16 (x2 + 1) mt mv sw hv tk tn sc _ _ _  hP hD hS (lv_sub hl [2, 3, 0] rfl) e
          · have e := e.trans (if_neg c_51)
            refine lv_aload_n hx hb dX2_gapByAll_54 rfl (lv_at hl 1 rfl) ?_
            refine lv_aload_n hx hb dX2_gapByAll_55 rfl (lv_at hl 0 rfl) ?_
            refine lv_aload_n hx hb dX2_gapByAll_56 rfl (lv_at hl 1 rfl) ?_
            refine va_get (D := D) (ci := 3) (v := .ref (ad 2)) (C := RX2) (T := TX2) (N := 9) hx hb hts hinRX2 hown hK hP 0 rfl rfl 1 (by decide) (hts (.fieldLink RX2 13 "LicenceKeeper" "hosts" "[I") (by decide +kernel)) (fun _ h9 => h9) rfl dX2_gapByAll_57 ?_
            refine kv_callv (va_runV (As := [.ref (pa k_32), .ref (ad 2)]) (rest := []) ⟨hx, hb, hml, hown, hts⟩ (c_X2_takeUp l D ci ad kc kh ks fo kl kp dy mo n pa aE qp qm ql qv qc qe mt mv sw hv tk tn sc k_32 kh hk_32 (ad 2) 2 (fun _ _ _ _ _ _ _ => rfl) (kv_q2_n e hRz) H.size) (cwV 2 hts gX2_gapByAll_X2_takeUp rfl rfl rfl (by decide +kernel) ⟨Nat.le_of_ble_eq_true rfl, Nat.le_of_ble_eq_true rfl⟩) (kv_preV hK hP hD (r := (RX2, TX2, 9)) (q0 := 0) (k := 3) rfl rfl rfl) rfl rfl hl.1 rfl (lv_room (Nat.le_of_ble_eq_true rfl)) dX2_gapByAll_60 ⟨Nat.le_of_ble_eq_true rfl, Nat.le_of_ble_eq_true rfl⟩) hD hS hA (fun u_60 H locs hw_60 hP hD hS => ?_)
            obtain ⟨o0_60, o1_60⟩ := u_60
            have e := kv_q2_e e hw_60
            have hP : va_P D vwCl (kv_kw ci ad kc kh ks fo kl kp dy mo n pa aE qp qm ql qv qc qe o0_60 o1_60 sw hv tk tn sc) H := hP
            have hD : va_D A (kv_kw ci ad kc kh ks fo kl kp dy mo n pa aE qp qm ql qv qc qe o0_60 o1_60 sw hv tk tn sc) := hD
            refine lv_aload_n hx hb dX2_gapByAll_63 rfl (lv_at hl 1 rfl) ?_
            refine va_get (D := D) (ci := 3) (v := .ref (ad 8)) (C := RX2) (T := TX2) (N := 9) hx hb hts hinRX2 hown hK hP 0 rfl rfl 7 (by decide) (hts (.fieldLink RX2 40 "LicenceKeeper" "layings" "LLicenceKeeper$Layings;") (by decide +kernel)) (fun _ h9 => h9) rfl dX2_gapByAll_64 ?_
            refine lv_aload_n hx hb dX2_gapByAll_67 rfl (lv_at hl 0 rfl) ?_
            refine va_get (D := D) (ci := 2) (v := .int (qc k_32)) (C := RX1) (T := TX1) (N := 6) hx hb hts hinRX1 hown hK hP (24 + k_32) (kv_rt hk_32) rfl 4 (by decide) (hts (.fieldLink RX2 112 "LicenceKeeper$Right" "count" "I") (by decide +kernel)) (fun _ h9 => h9) rfl dX2_gapByAll_68 ?_
            refine kv_callv (va_runV (As := [.int (qc k_32)]) (rest := []) ⟨hx, hb, hml, hown, hts⟩ (c_X0_layOnAllSets l D ci ad kc kh ks fo kl kp dy mo n pa aE qp qm ql qv qc qe o0_60 o1_60 sw hv tk tn sc (qc k_32) (kv_q3_n e hRz) H.size) (cwV 1 hts gX2_gapByAll_X0_layOnAllSets rfl rfl rfl (by decide +kernel) ⟨Nat.le_of_ble_eq_true rfl, Nat.le_of_ble_eq_true rfl⟩) (kv_preV hK hP hD (r := (RX0, TX0, 7)) (q0 := 8) (k := 1) rfl rfl rfl) rfl rfl hl.1 rfl (lv_room (Nat.le_of_ble_eq_true rfl)) dX2_gapByAll_71 ⟨Nat.le_of_ble_eq_true rfl, Nat.le_of_ble_eq_true rfl⟩) hD hS hA (fun u_71 H locs hw_71 hP hD hS => ?_)
            obtain ⟨o0_71, o1_71, o2_71⟩ := u_71
            have e := kv_q3_e e hw_71
            have hP : va_P D vwCl (kv_kw ci ad kc kh ks fo kl kp dy mo n pa aE qp qm ql qv qc qe o0_60 o1_60 sw hv o0_71 o1_71 o2_71) H := hP
            have hD : va_D A (kv_kw ci ad kc kh ks fo kl kp dy mo n pa aE qp qm ql qv qc qe o0_60 o1_60 sw hv o0_71 o1_71 o2_71) := hD
            refine lv_iinc (v := x2 + 1) (lv' := [(2, .int (x2 + 1)), (3, .ref (pa k_32)), (0, .ref (ad 0)), (1, .int p0)]) hx hb dX2_gapByAll_74 hl (k := 3) rfl rfl (by decide) rfl (fun ls hl => ?_)
            refine lv_goto (tgt := 16) hx hb dX2_gapByAll_77 (by decide) ?_
            exact ih_16 (x2 + 1) o0_60 o1_60 sw hv o0_71 o1_71 o2_71 _ _ _  hP hD hS (lv_sub hl [2, 3, 0] rfl) e
  refine lv_iload_n hx hb dX2_gapByAll_0 rfl (lv_at hl 1 rfl) ?_
  refine kv_xcallv (vx_runS (As := [.int p0]) (rest := []) ⟨hx, hb, hml, hown, hts⟩ (c_X2_requireProduct l hl9 D ci ad kc kh ks fo kl kp dy mo n pa aE qp qm ql qv qc qe mt mv sw hv tk tn sc p0 (kv_x0_n e hRz) s.heap.size) (va_cwS 1 hts gX2_gapByAll_X2_requireProduct rfl rfl rfl (by decide +kernel) ⟨Nat.le_of_ble_eq_true rfl, Nat.le_of_ble_eq_true rfl⟩) (kv_preSX hK hP hD hT hS hA) rfl rfl hl.1 rfl (lv_room (Nat.le_of_ble_eq_true rfl)) dX2_gapByAll_1 ⟨Nat.le_of_ble_eq_true rfl, Nat.le_of_ble_eq_true rfl⟩) hD hS hA (fun ce q9 u9 H locs hw9 hP hD hS h1 h2 h3 => ?_) (fun u_1 H locs hw_1 hP hD hS => ?_)
  · rw [hQ]
    exact vx_out (fun x h => (hex x h).elim) hlocks h1 h2 h3 (fun t ht hvm => ⟨u9, kv_x0_t e hw9, ⟨rfl, by rw [ht]; exact hP, by rw [hAe]; exact hD⟩, hS.F ht⟩) hS.2.2 (Nat.le_of_ble_eq_true rfl) (Nat.le_of_ble_eq_true rfl)
  have e := kv_x0_e e hw_1
  refine lv_aload_n hx hb dX2_gapByAll_4 rfl (lv_at hl 0 rfl) ?_
  refine lv_iload_n hx hb dX2_gapByAll_5 rfl (lv_at hl 1 rfl) ?_
  refine kv_xcallv (vx_runV (As := [.int p0]) (rest := []) ⟨hx, hb, hml, hown, hts⟩ (c_X2_requireFewRights l hl9 D ci ad kc kh ks fo kl kp dy mo n pa aE qp qm ql qv qc qe mt mv sw hv tk tn sc p0 (kv_x0_n e hRz) H.size) (cwV 1 hts gX2_gapByAll_X2_requireFewRights rfl rfl rfl (by decide +kernel) ⟨Nat.le_of_ble_eq_true rfl, Nat.le_of_ble_eq_true rfl⟩) (kv_preVX hK hP hD hT hS hA (r := (RX2, TX2, 9)) (q0 := 0) (k := 3) rfl rfl rfl) rfl rfl hl.1 rfl (lv_room (Nat.le_of_ble_eq_true rfl)) dX2_gapByAll_6 ⟨Nat.le_of_ble_eq_true rfl, Nat.le_of_ble_eq_true rfl⟩) hD hS hA (fun ce q9 u9 H locs hw9 hP hD hS h1 h2 h3 => ?_) (fun u_6 H locs hw_6 hP hD hS => ?_)
  · rw [hQ]
    exact vx_out (fun x h => (hex x h).elim) hlocks h1 h2 h3 (fun t ht hvm => ⟨u9, kv_x0_t e hw9, ⟨rfl, by rw [ht]; exact hP, by rw [hAe]; exact hD⟩, hS.F ht⟩) hS.2.2 (Nat.le_of_ble_eq_true rfl) (Nat.le_of_ble_eq_true rfl)
  have e := kv_x0_e e hw_6
  refine lv_aload_n hx hb dX2_gapByAll_9 rfl (lv_at hl 0 rfl) ?_
  refine lv_iload_n hx hb dX2_gapByAll_10 rfl (lv_at hl 1 rfl) ?_
  refine kv_callv (va_runV (As := [.int p0]) (rest := []) ⟨hx, hb, hml, hown, hts⟩ (c_X2_startLayings l D ci ad kc kh ks fo kl kp dy mo n pa aE qp qm ql qv qc qe mt mv sw hv tk tn sc p0 (kv_q3_n e hRz) H.size) (cwV 1 hts gX2_gapByAll_X2_startLayings rfl rfl rfl (by decide +kernel) ⟨Nat.le_of_ble_eq_true rfl, Nat.le_of_ble_eq_true rfl⟩) (kv_preV hK hP hD (r := (RX2, TX2, 9)) (q0 := 0) (k := 3) rfl rfl rfl) rfl rfl hl.1 rfl (lv_room (Nat.le_of_ble_eq_true rfl)) dX2_gapByAll_11 ⟨Nat.le_of_ble_eq_true rfl, Nat.le_of_ble_eq_true rfl⟩) hD hS hA (fun u_11 H locs hw_11 hP hD hS => ?_)
  obtain ⟨o0_11, o1_11, o2_11⟩ := u_11
  have e := kv_q3_e e hw_11
  have hP : va_P D vwCl (kv_kw ci ad kc kh ks fo kl kp dy mo n pa aE qp qm ql qv qc qe mt mv o0_11 o1_11 o2_11 tn sc) H := hP
  have hD : va_D A (kv_kw ci ad kc kh ks fo kl kp dy mo n pa aE qp qm ql qv qc qe mt mv o0_11 o1_11 o2_11 tn sc) := hD
  refine lv_iconst (v := 0) hx hb dX2_gapByAll_14 (by decide) ?_
  refine lv_istore_n (lv' := [(2, .int 0), (0, .ref (ad 0)), (1, .int p0)]) hx hb dX2_gapByAll_15 rfl hl (by decide) rfl (fun ls hl => ?_)
  exact hb_16 kv_F 0 mt mv o0_11 o1_11 o2_11 tn sc _ _ _  hP hD hS (lv_sub hl [1, 2, 0] rfl) e

def pf_X2_gapIf (kc : Nat → Int32) (kh : Nat → Int32) (fo : Nat → Nat → Int32) (kp : Nat → Int32) (n : Nat) (qp : Nat → Int32) (qm : Nat → Int32) (qv : Nat → Int32) (qc : Nat → Int32) (p0 : Int32) (p1 : Int32) (p2 : Int32) (ks : Nat → Int32) (mt : Nat → Int32) (mv : Nat → Int32) (sw : Nat → Int32) (hv : Int32) (tk : Nat → Int32) : Option ((Int32 × (Nat → Int32) × (Nat → Int32) × (Nat → Int32) × (Nat → Int32) × Int32 × (Nat → Int32)) ⊕ Nat) :=
  kv_x0 (pf_X2_requireProduct p0) (kv_x0 (pf_X2_requireMovable kh p1 p2) (kv_T (va_cpy kh ks (0 : Int32).toNatClampNeg (0 : Int32).toNatClampNeg (8 : Int32).toNatClampNeg) (fun g_22 => kv_G p1 8 (kv_T (upd g_22 p1.toNatClampNeg p2) (fun g_31 => kv_q6 (pf_X2_leastUncovered kc fo kp n qp qm qv qc p0 g_31 mt mv sw hv tk) (fun r_42 o0_42 o1_42 o2_42 o3_42 o4_42 => kv_q1 (pf_X0_weightOfSet o2_42 r_42) (fun r_45 => some (.inl (r_45, g_31, o0_42, o1_42, o2_42, o3_42, o4_42)))))))))
abbrev rmX2_gapIf : Room := { frames := 8, cells := 4, slots := 24, locals := 124 }
set_option maxHeartbeats 4000000 in
set_option maxRecDepth 100000 in
theorem c_X2_gapIf (l : Launch) (hl9 : l.stackTraces = false) (D : va_G) (ci ad : Nat → Nat) (kc : Nat → Int32) (kh : Nat → Int32) (ks : Nat → Int32) (fo : Nat → Nat → Int32) (kl : Nat → Int32) (kp : Nat → Int32) (dy : Int32) (mo : Int32) (n : Nat) (pa : Nat → Nat) (aE : Nat) (qp : Nat → Int32) (qm : Nat → Int32) (ql : Nat → Int32) (qv : Nat → Int32) (qc : Nat → Int32) (qe : Nat → Int32) (mt : Nat → Int32) (mv : Nat → Int32) (sw : Nat → Int32) (hv : Int32) (tk : Nat → Int32) (tn : Nat → Int32) (sc : Nat → Int32) (p0 : Int32) (p1 : Int32) (p2 : Int32)  (hRn : pf_X2_gapIf kc kh fo kp n qp qm qv qc p0 p1 p2 ks mt mv sw hv tk ≠ none) (sz : Nat) : vx_Met l yX2_gapIf wsX2_gapIf rmX2_gapIf (va_Pc [.ref (ad 0), .int p0, .int p1, .int p2] (kv_preX D ci (kv_kw ci ad kc kh ks fo kl kp dy mo n pa aE qp qm ql qv qc qe mt mv sw hv tk tn sc) sz))  (va_Qi (fun (r : Int32) (u : (Nat → Int32) × (Nat → Int32) × (Nat → Int32) × (Nat → Int32) × Int32 × (Nat → Int32)) => pf_X2_gapIf kc kh fo kp n qp qm qv qc p0 p1 p2 ks mt mv sw hv tk = some (.inl (r, u))) (fun u t => kv_post D (kv_kw ci ad kc kh ks fo kl kp dy mo n pa aE qp qm ql qv qc qe mt mv sw hv tk tn sc) sz (kv_kw ci ad kc kh u.1 fo kl kp dy mo n pa aE qp qm ql qv qc qe u.2.1 u.2.2.1 u.2.2.2.1 u.2.2.2.2.1 u.2.2.2.2.2 tn sc) t) (va_A (kv_kw ci ad kc kh ks fo kl kp dy mo n pa aE qp qm ql qv qc qe mt mv sw hv tk tn sc) sz)) (vx_X (fun u : Nat => pf_X2_gapIf kc kh fo kp n qp qm qv qc p0 p1 p2 ks mt mv sw hv tk = some (.inr u)) (fun E u t => E = kv_ex u ∧ kv_post D (kv_kw ci ad kc kh ks fo kl kp dy mo n pa aE qp qm ql qv qc qe mt mv sw hv tk tn sc) sz (kv_kw ci ad kc kh ks fo kl kp dy mo n pa aE qp qm ql qv qc qe mt mv sw hv tk tn sc) t) (va_A (kv_kw ci ad kc kh ks fo kl kp dy mo n pa aE qp qm ql qv qc qe mt mv sw hv tk tn sc) sz)) 4 24 (va_A (kv_kw ci ad kc kh ks fo kl kp dy mo n pa aE qp qm ql qv qc qe mt mv sw hv tk tn sc) sz) := by
  refine vx_ofW (cc := cX2_gapIf) (maxL := 4) (ret := (some .int)) (by decide) rfl ?_
  intro p en s m args below meth c s₁ B hml hex hv
  obtain ⟨hv0, ⟨hsz, hP, hK, hD0⟩, hT⟩ := hv
  have hx := B.exec
  have hb := B.bytes
  have hr := B.returns
  have hts := atoms_spec (ws := wsX2_gapIf) B.pre
  have hown : s.vm.findClass RX2 = some m.cls := findClass_of_methodNamed B.named
  have hlocks := B.notSynchronized
  subst hsz
  have hD := hD0.self (sz := s.heap.size)
  generalize hAe : va_A (kv_kw ci ad kc kh ks fo kl kp dy mo n pa aE qp qm ql qv qc qe mt mv sw hv tk tn sc) s.heap.size = A at hD hT ⊢
  have hA : ∀ q : Nat, s.heap.size ≤ q → A q := fun q h => by rw [← hAe]; exact Or.inr h
  have hS : va_S A s.heap s.heap [] := va_S.rf
  have hP : va_P D vwCl (kv_kw ci ad kc kh ks fo kl kp dy mo n pa aE qp qm ql qv qc qe mt mv sw hv tk tn sc) s.heap := hP
  have hinRX2 : ∀ w ∈ u_ws RX2 TX2 9, w ∈ wsX2_gapIf := by decide +kernel
  generalize hRd : pf_X2_gapIf kc kh fo kp n qp qm qv qc p0 p1 p2 ks mt mv sw hv tk = Rz at hRn
  have hRz := hRn
  refine kv_Q (fun Q hQ => ?_)
  refine W.eq (show entryFrame m args 4 = _ from by rw [hv0, lg_entry_eq]) ?_
  have hl := lv_entry ([.ref (ad 0), .int p0, .int p1, .int p2]) (n := 4) (Nat.le_of_ble_eq_true rfl)
  generalize (lg_sl ([.ref (ad 0), .int p0, .int p1, .int p2]) ++ List.replicate (4 - (lg_sl ([.ref (ad 0), .int p0, .int p1, .int p2])).length) Slot.unset).toArray = ls at hl ⊢
  have hl : lv_has ls 4 [(0, .ref (ad 0)), (1, .int p0), (2, .int p1), (3, .int p2)] := hl
  have e : Rz = pf_X2_gapIf kc kh fo kp n qp qm qv qc p0 p1 p2 ks mt mv sw hv tk := hRd.symm
  rw [pf_X2_gapIf] at e
  refine lv_iload_n hx hb dX2_gapIf_0 rfl (lv_at hl 1 rfl) ?_
  refine kv_xcallv (vx_runS (As := [.int p0]) (rest := []) ⟨hx, hb, hml, hown, hts⟩ (c_X2_requireProduct l hl9 D ci ad kc kh ks fo kl kp dy mo n pa aE qp qm ql qv qc qe mt mv sw hv tk tn sc p0 (kv_x0_n e hRz) s.heap.size) (va_cwS 1 hts gX2_gapIf_X2_requireProduct rfl rfl rfl (by decide +kernel) ⟨Nat.le_of_ble_eq_true rfl, Nat.le_of_ble_eq_true rfl⟩) (kv_preSX hK hP hD hT hS hA) rfl rfl hl.1 rfl (lv_room (Nat.le_of_ble_eq_true rfl)) dX2_gapIf_1 ⟨Nat.le_of_ble_eq_true rfl, Nat.le_of_ble_eq_true rfl⟩) hD hS hA (fun ce q9 u9 H locs hw9 hP hD hS h1 h2 h3 => ?_) (fun u_1 H locs hw_1 hP hD hS => ?_)
  · rw [hQ]
    exact vx_out (fun x h => (hex x h).elim) hlocks h1 h2 h3 (fun t ht hvm => ⟨u9, kv_x0_t e hw9, ⟨rfl, by rw [ht]; exact hP, by rw [hAe]; exact hD⟩, hS.F ht⟩) hS.2.2 (Nat.le_of_ble_eq_true rfl) (Nat.le_of_ble_eq_true rfl)
  have e := kv_x0_e e hw_1
  refine lv_aload_n hx hb dX2_gapIf_4 rfl (lv_at hl 0 rfl) ?_
  refine lv_iload_n hx hb dX2_gapIf_5 rfl (lv_at hl 2 rfl) ?_
  refine lv_iload_n hx hb dX2_gapIf_6 rfl (lv_at hl 3 rfl) ?_
  refine kv_xcallv (vx_runV (As := [.int p1, .int p2]) (rest := []) ⟨hx, hb, hml, hown, hts⟩ (c_X2_requireMovable l hl9 D ci ad kc kh ks fo kl kp dy mo n pa aE qp qm ql qv qc qe mt mv sw hv tk tn sc p1 p2 (kv_x0_n e hRz) H.size) (cwV 2 hts gX2_gapIf_X2_requireMovable rfl rfl rfl (by decide +kernel) ⟨Nat.le_of_ble_eq_true rfl, Nat.le_of_ble_eq_true rfl⟩) (kv_preVX hK hP hD hT hS hA (r := (RX2, TX2, 9)) (q0 := 0) (k := 3) rfl rfl rfl) rfl rfl hl.1 rfl (lv_room (Nat.le_of_ble_eq_true rfl)) dX2_gapIf_7 ⟨Nat.le_of_ble_eq_true rfl, Nat.le_of_ble_eq_true rfl⟩) hD hS hA (fun ce q9 u9 H locs hw9 hP hD hS h1 h2 h3 => ?_) (fun u_7 H locs hw_7 hP hD hS => ?_)
  · rw [hQ]
    exact vx_out (fun x h => (hex x h).elim) hlocks h1 h2 h3 (fun t ht hvm => ⟨u9, kv_x0_t e hw9, ⟨rfl, by rw [ht]; exact hP, by rw [hAe]; exact hD⟩, hS.F ht⟩) hS.2.2 (Nat.le_of_ble_eq_true rfl) (Nat.le_of_ble_eq_true rfl)
  have e := kv_x0_e e hw_7
  refine lv_aload_n hx hb dX2_gapIf_10 rfl (lv_at hl 0 rfl) ?_
  refine va_get (D := D) (ci := 3) (v := .ref (ad 2)) (C := RX2) (T := TX2) (N := 9) hx hb hts hinRX2 hown hK hP 0 rfl rfl 1 (by decide) (hts (.fieldLink RX2 13 "LicenceKeeper" "hosts" "[I") (by decide +kernel)) (fun _ h9 => h9) rfl dX2_gapIf_11 ?_
  refine lv_iconst (v := 0) hx hb dX2_gapIf_14 (by decide) ?_
  refine lv_aload_n hx hb dX2_gapIf_15 rfl (lv_at hl 0 rfl) ?_
  refine va_get (D := D) (ci := 3) (v := .ref (ad 3)) (C := RX2) (T := TX2) (N := 9) hx hb hts hinRX2 hown hK hP 0 rfl rfl 2 (by decide) (hts (.fieldLink RX2 16 "LicenceKeeper" "supposedHosts" "[I") (by decide +kernel)) (fun _ h9 => h9) rfl dX2_gapIf_16 ?_
  refine lv_iconst (v := 0) hx hb dX2_gapIf_19 (by decide) ?_
  refine lv_bipush (v := 8) hx hb dX2_gapIf_20 (by decide) ?_
  refine va_copyi hx hb (hml.trans hl.1.symm) hown (hts (.methodLink RX2 155 arraycopyName) (by decide +kernel)) (hts (.native arraycopyName) (by decide +kernel)) (hts (.static arraycopyName) (by decide +kernel)) (hts (.initialized "java/lang/System") (by decide +kernel)) hK hP hD hS 2 3 0 0 rfl rfl rfl rfl rfl (by decide) (by decide) (by decide) (by decide) (by decide) (fun _ _ => rfl) (Nat.le_of_ble_eq_true rfl) (by decide +kernel) dX2_gapIf_22 (fun H locs hP hD hS => ?_)
  have hP : va_P D vwCl (kv_kw ci ad kc kh (va_cpy kh ks (0 : Int32).toNatClampNeg (0 : Int32).toNatClampNeg (8 : Int32).toNatClampNeg) fo kl kp dy mo n pa aE qp qm ql qv qc qe mt mv sw hv tk tn sc) H := hP
  have hD : va_D A (kv_kw ci ad kc kh (va_cpy kh ks (0 : Int32).toNatClampNeg (0 : Int32).toNatClampNeg (8 : Int32).toNatClampNeg) fo kl kp dy mo n pa aE qp qm ql qv qc qe mt mv sw hv tk tn sc) := hD
  obtain ⟨g_22, eg_22⟩ : ∃ g, g = va_cpy kh ks (0 : Int32).toNatClampNeg (0 : Int32).toNatClampNeg (8 : Int32).toNatClampNeg := ⟨_, rfl⟩
  rw [← eg_22] at hP hD
  have e := kv_T_e e eg_22
  refine lv_aload_n hx hb dX2_gapIf_25 rfl (lv_at hl 0 rfl) ?_
  refine va_get (D := D) (ci := 3) (v := .ref (ad 3)) (C := RX2) (T := TX2) (N := 9) hx hb hts hinRX2 hown hK hP 0 rfl rfl 2 (by decide) (hts (.fieldLink RX2 16 "LicenceKeeper" "supposedHosts" "[I") (by decide +kernel)) (fun _ h9 => h9) rfl dX2_gapIf_26 ?_
  refine lv_iload_n hx hb dX2_gapIf_29 rfl (lv_at hl 2 rfl) ?_
  refine lv_iload_n hx hb dX2_gapIf_30 rfl (lv_at hl 3 rfl) ?_
  obtain ⟨hi_31, e⟩ := kv_G_e e hRz
  refine kv_iast hx hb hK hP hD hS 3 0 (fun g_31 => (kv_kw ci ad kc kh g_31 fo kl kp dy mo n pa aE qp qm ql qv qc qe mt mv sw hv tk tn sc)) hi_31 dX2_gapIf_31 rfl rfl (fun _ => rfl) (fun g_31 H locs eg_31 hP hD hS => ?_)
  have e := kv_T_e e eg_31
  refine lv_aload_n hx hb dX2_gapIf_32 rfl (lv_at hl 0 rfl) ?_
  refine va_get (D := D) (ci := 3) (v := .ref (ad 8)) (C := RX2) (T := TX2) (N := 9) hx hb hts hinRX2 hown hK hP 0 rfl rfl 7 (by decide) (hts (.fieldLink RX2 40 "LicenceKeeper" "layings" "LLicenceKeeper$Layings;") (by decide +kernel)) (fun _ h9 => h9) rfl dX2_gapIf_33 ?_
  refine lv_aload_n hx hb dX2_gapIf_36 rfl (lv_at hl 0 rfl) ?_
  refine lv_iload_n hx hb dX2_gapIf_37 rfl (lv_at hl 1 rfl) ?_
  refine lv_aload_n hx hb dX2_gapIf_38 rfl (lv_at hl 0 rfl) ?_
  refine va_get (D := D) (ci := 3) (v := .ref (ad 3)) (C := RX2) (T := TX2) (N := 9) hx hb hts hinRX2 hown hK hP 0 rfl rfl 2 (by decide) (hts (.fieldLink RX2 16 "LicenceKeeper" "supposedHosts" "[I") (by decide +kernel)) (fun _ h9 => h9) rfl dX2_gapIf_39 ?_
  refine kv_calli (va_runV (As := [.int p0, .ref (ad 3)]) (rest := [.ref (ad 8)]) ⟨hx, hb, hml, hown, hts⟩ (c_X2_leastUncovered l D ci ad kc kh g_31 fo kl kp dy mo n pa aE qp qm ql qv qc qe mt mv sw hv tk tn sc p0 g_31 (ad 3) 3 (fun _ _ _ _ _ _ _ => rfl) (kv_q6_n e hRz) H.size) (cwV 2 hts gX2_gapIf_X2_leastUncovered rfl rfl rfl (by decide +kernel) ⟨Nat.le_of_ble_eq_true rfl, Nat.le_of_ble_eq_true rfl⟩) (kv_preV hK hP hD (r := (RX2, TX2, 9)) (q0 := 0) (k := 3) rfl rfl rfl) rfl rfl hl.1 rfl (lv_room (Nat.le_of_ble_eq_true rfl)) dX2_gapIf_42 ⟨Nat.le_of_ble_eq_true rfl, Nat.le_of_ble_eq_true rfl⟩) hD hS hA (fun r_42 u_42 H locs hw_42 hP hD hS => ?_)
  obtain ⟨o0_42, o1_42, o2_42, o3_42, o4_42⟩ := u_42
  have e := kv_q6_e e hw_42
  have hP : va_P D vwCl (kv_kw ci ad kc kh g_31 fo kl kp dy mo n pa aE qp qm ql qv qc qe o0_42 o1_42 o2_42 o3_42 o4_42 tn sc) H := hP
  have hD : va_D A (kv_kw ci ad kc kh g_31 fo kl kp dy mo n pa aE qp qm ql qv qc qe o0_42 o1_42 o2_42 o3_42 o4_42 tn sc) := hD
  refine kv_calli (va_runV (As := [.int r_42]) (rest := []) ⟨hx, hb, hml, hown, hts⟩ (c_X0_weightOfSet l D ci ad kc kh g_31 fo kl kp dy mo n pa aE qp qm ql qv qc qe o0_42 o1_42 o2_42 o3_42 o4_42 tn sc r_42 (kv_q1_n e hRz) H.size) (cwV 1 hts gX2_gapIf_X0_weightOfSet rfl rfl rfl (by decide +kernel) ⟨Nat.le_of_ble_eq_true rfl, Nat.le_of_ble_eq_true rfl⟩) (kv_preV hK hP hD (r := (RX0, TX0, 7)) (q0 := 8) (k := 1) rfl rfl rfl) rfl rfl hl.1 rfl (lv_room (Nat.le_of_ble_eq_true rfl)) dX2_gapIf_45 ⟨Nat.le_of_ble_eq_true rfl, Nat.le_of_ble_eq_true rfl⟩) hD hS hA (fun r_45 u_45 H locs hw_45 hP hD hS => ?_)
  have e := kv_q1_e e hw_45
  rw [hQ]
  refine W.widen (k := 4) (n := 24) (Nat.le_of_ble_eq_true rfl) (Nat.le_of_ble_eq_true rfl) ?_
  refine vx_ret ?_
  exact W.iret (v := r_45) hx hb hr (fun t ht hW => ⟨⟨r_45, (g_31, o0_42, o1_42, o2_42, o3_42, o4_42), rfl, e, ⟨by rw [ht]; exact hP, by rw [hAe]; exact hD⟩⟩, hS.F ht⟩) hS.2.2 dX2_gapIf_48

def pf_X2_spare (kc : Nat → Int32) (kh : Nat → Int32) (fo : Nat → Nat → Int32) (kp : Nat → Int32) (n : Nat) (qp : Nat → Int32) (qm : Nat → Int32) (qv : Nat → Int32) (qc : Nat → Int32) (p0 : Int32) (mt : Nat → Int32) (mv : Nat → Int32) (sw : Nat → Int32) (hv : Int32) (tk : Nat → Int32) : Option ((Int32 × (Nat → Int32) × (Nat → Int32) × (Nat → Int32) × Int32 × (Nat → Int32)) ⊕ Nat) :=
  kv_x1 (pf_X2_rightAt n p0) (fun k_2 => kv_q5 (pf_X2_layAllBut kc fo kp n qp qm qv qc p0 (qp k_2) kh mt mv sw hv tk) (fun o0_16 o1_16 o2_16 o3_16 o4_16 => kv_q2 (pf_X2_takeUp kc fo n qp qm qv k_2 kh o0_16 o1_16) (fun o0_25 o1_25 => kv_q1 (pf_X0_layOpen o0_25 o1_25 o4_16) (fun u_32 => kv_q1 (pf_X0_leastUncoveredWithin o2_16 o3_16 u_32 (qc k_2)) (fun r_43 => kv_q1 (pf_X0_weightOfSet o2_16 r_43) (fun r_60 => kv_q1 (pf_X0_leastTakenFor o2_16 o3_16 u_32 r_60) (fun r_63 => some (.inl (((qc k_2) - r_63), o0_25, o1_25, o2_16, o3_16, u_32)))))))))
abbrev rmX2_spare : Room := { frames := 7, cells := 1, slots := 6, locals := 103 }
set_option maxHeartbeats 4000000 in
set_option maxRecDepth 100000 in
theorem c_X2_spare (l : Launch) (hl9 : l.stackTraces = false) (D : va_G) (ci ad : Nat → Nat) (kc : Nat → Int32) (kh : Nat → Int32) (ks : Nat → Int32) (fo : Nat → Nat → Int32) (kl : Nat → Int32) (kp : Nat → Int32) (dy : Int32) (mo : Int32) (n : Nat) (pa : Nat → Nat) (aE : Nat) (qp : Nat → Int32) (qm : Nat → Int32) (ql : Nat → Int32) (qv : Nat → Int32) (qc : Nat → Int32) (qe : Nat → Int32) (mt : Nat → Int32) (mv : Nat → Int32) (sw : Nat → Int32) (hv : Int32) (tk : Nat → Int32) (tn : Nat → Int32) (sc : Nat → Int32) (p0 : Int32)  (hRn : pf_X2_spare kc kh fo kp n qp qm qv qc p0 mt mv sw hv tk ≠ none) (sz : Nat) : vx_Met l yX2_spare wsX2_spare rmX2_spare (va_Pc [.ref (ad 0), .int p0] (kv_preX D ci (kv_kw ci ad kc kh ks fo kl kp dy mo n pa aE qp qm ql qv qc qe mt mv sw hv tk tn sc) sz))  (va_Qi (fun (r : Int32) (u : (Nat → Int32) × (Nat → Int32) × (Nat → Int32) × Int32 × (Nat → Int32)) => pf_X2_spare kc kh fo kp n qp qm qv qc p0 mt mv sw hv tk = some (.inl (r, u))) (fun u t => kv_post D (kv_kw ci ad kc kh ks fo kl kp dy mo n pa aE qp qm ql qv qc qe mt mv sw hv tk tn sc) sz (kv_kw ci ad kc kh ks fo kl kp dy mo n pa aE qp qm ql qv qc qe u.1 u.2.1 u.2.2.1 u.2.2.2.1 u.2.2.2.2 tn sc) t) (va_A (kv_kw ci ad kc kh ks fo kl kp dy mo n pa aE qp qm ql qv qc qe mt mv sw hv tk tn sc) sz)) (vx_X (fun u : Nat => pf_X2_spare kc kh fo kp n qp qm qv qc p0 mt mv sw hv tk = some (.inr u)) (fun E u t => E = kv_ex u ∧ kv_post D (kv_kw ci ad kc kh ks fo kl kp dy mo n pa aE qp qm ql qv qc qe mt mv sw hv tk tn sc) sz (kv_kw ci ad kc kh ks fo kl kp dy mo n pa aE qp qm ql qv qc qe mt mv sw hv tk tn sc) t) (va_A (kv_kw ci ad kc kh ks fo kl kp dy mo n pa aE qp qm ql qv qc qe mt mv sw hv tk tn sc) sz)) 1 6 (va_A (kv_kw ci ad kc kh ks fo kl kp dy mo n pa aE qp qm ql qv qc qe mt mv sw hv tk tn sc) sz) := by
  refine vx_ofW (cc := cX2_spare) (maxL := 4) (ret := (some .int)) (by decide) rfl ?_
  intro p en s m args below meth c s₁ B hml hex hv
  obtain ⟨hv0, ⟨hsz, hP, hK, hD0⟩, hT⟩ := hv
  have hx := B.exec
  have hb := B.bytes
  have hr := B.returns
  have hts := atoms_spec (ws := wsX2_spare) B.pre
  have hown : s.vm.findClass RX2 = some m.cls := findClass_of_methodNamed B.named
  have hlocks := B.notSynchronized
  subst hsz
  have hD := hD0.self (sz := s.heap.size)
  generalize hAe : va_A (kv_kw ci ad kc kh ks fo kl kp dy mo n pa aE qp qm ql qv qc qe mt mv sw hv tk tn sc) s.heap.size = A at hD hT ⊢
  have hA : ∀ q : Nat, s.heap.size ≤ q → A q := fun q h => by rw [← hAe]; exact Or.inr h
  have hS : va_S A s.heap s.heap [] := va_S.rf
  have hP : va_P D vwCl (kv_kw ci ad kc kh ks fo kl kp dy mo n pa aE qp qm ql qv qc qe mt mv sw hv tk tn sc) s.heap := hP
  have hinRX1 : ∀ w ∈ u_ws RX1 TX1 6, w ∈ wsX2_spare := by decide +kernel
  have hinRX2 : ∀ w ∈ u_ws RX2 TX2 9, w ∈ wsX2_spare := by decide +kernel
  generalize hRd : pf_X2_spare kc kh fo kp n qp qm qv qc p0 mt mv sw hv tk = Rz at hRn
  have hRz := hRn
  refine kv_Q (fun Q hQ => ?_)
  refine W.eq (show entryFrame m args 4 = _ from by rw [hv0, lg_entry_eq]) ?_
  have hl := lv_entry ([.ref (ad 0), .int p0]) (n := 4) (Nat.le_of_ble_eq_true rfl)
  generalize (lg_sl ([.ref (ad 0), .int p0]) ++ List.replicate (4 - (lg_sl ([.ref (ad 0), .int p0])).length) Slot.unset).toArray = ls at hl ⊢
  have hl : lv_has ls 4 [(0, .ref (ad 0)), (1, .int p0)] := hl
  have e : Rz = pf_X2_spare kc kh fo kp n qp qm qv qc p0 mt mv sw hv tk := hRd.symm
  rw [pf_X2_spare] at e
  refine lv_aload_n hx hb dX2_spare_0 rfl (lv_at hl 0 rfl) ?_
  refine lv_iload_n hx hb dX2_spare_1 rfl (lv_at hl 1 rfl) ?_
  refine kv_xcallq (pa := pa) (n := n) (vx_runV (As := [.int p0]) (rest := []) ⟨hx, hb, hml, hown, hts⟩ (c_X2_rightAt l hl9 D ci ad kc kh ks fo kl kp dy mo n pa aE qp qm ql qv qc qe mt mv sw hv tk tn sc p0 (kv_x1_n e hRz) s.heap.size) (cwV 1 hts gX2_spare_X2_rightAt rfl rfl rfl (by decide +kernel) ⟨Nat.le_of_ble_eq_true rfl, Nat.le_of_ble_eq_true rfl⟩) (kv_preVX hK hP hD hT hS hA (r := (RX2, TX2, 9)) (q0 := 0) (k := 3) rfl rfl rfl) rfl rfl hl.1 rfl (lv_room (Nat.le_of_ble_eq_true rfl)) dX2_spare_2 ⟨Nat.le_of_ble_eq_true rfl, Nat.le_of_ble_eq_true rfl⟩) hD hS hA (fun ce q9 u9 H locs hw9 hP hD hS h1 h2 h3 => ?_) (fun k_2 H locs hk_2 hw_2 hP hD hS => ?_)
  · rw [hQ]
    exact vx_out (fun x h => (hex x h).elim) hlocks h1 h2 h3 (fun t ht hvm => ⟨u9, kv_x1_t e hw9, ⟨rfl, by rw [ht]; exact hP, by rw [hAe]; exact hD⟩, hS.F ht⟩) hS.2.2 (Nat.le_of_ble_eq_true rfl) (Nat.le_of_ble_eq_true rfl)
  have e := kv_x1_e e hw_2
  refine lv_astore_n (lv' := [(2, .ref (pa k_2)), (0, .ref (ad 0)), (1, .int p0)]) hx hb dX2_spare_5 rfl hl (by decide) rfl (fun ls hl => ?_)
  refine lv_aload_n hx hb dX2_spare_6 rfl (lv_at hl 1 rfl) ?_
  refine lv_iload_n hx hb dX2_spare_7 rfl (lv_at hl 2 rfl) ?_
  refine lv_aload_n hx hb dX2_spare_8 rfl (lv_at hl 0 rfl) ?_
  refine va_get (D := D) (ci := 2) (v := .int (qp k_2)) (C := RX1) (T := TX1) (N := 6) hx hb hts hinRX1 hown hK hP (24 + k_2) (kv_rt hk_2) rfl 0 (by decide) (hts (.fieldLink RX2 86 "LicenceKeeper$Right" "product" "I") (by decide +kernel)) (fun _ h9 => h9) rfl dX2_spare_9 ?_
  refine lv_aload_n hx hb dX2_spare_12 rfl (lv_at hl 1 rfl) ?_
  refine va_get (D := D) (ci := 3) (v := .ref (ad 2)) (C := RX2) (T := TX2) (N := 9) hx hb hts hinRX2 hown hK hP 0 rfl rfl 1 (by decide) (hts (.fieldLink RX2 13 "LicenceKeeper" "hosts" "[I") (by decide +kernel)) (fun _ h9 => h9) rfl dX2_spare_13 ?_
  refine kv_callv (va_runV (As := [.int p0, .int (qp k_2), .ref (ad 2)]) (rest := []) ⟨hx, hb, hml, hown, hts⟩ (c_X2_layAllBut l D ci ad kc kh ks fo kl kp dy mo n pa aE qp qm ql qv qc qe mt mv sw hv tk tn sc p0 (qp k_2) kh (ad 2) 2 (fun _ _ _ _ _ _ _ => rfl) (kv_q5_n e hRz) H.size) (cwV 3 hts gX2_spare_X2_layAllBut rfl rfl rfl (by decide +kernel) ⟨Nat.le_of_ble_eq_true rfl, Nat.le_of_ble_eq_true rfl⟩) (kv_preV hK hP hD (r := (RX2, TX2, 9)) (q0 := 0) (k := 3) rfl rfl rfl) rfl rfl hl.1 rfl (lv_room (Nat.le_of_ble_eq_true rfl)) dX2_spare_16 ⟨Nat.le_of_ble_eq_true rfl, Nat.le_of_ble_eq_true rfl⟩) hD hS hA (fun u_16 H locs hw_16 hP hD hS => ?_)
  obtain ⟨o0_16, o1_16, o2_16, o3_16, o4_16⟩ := u_16
  have e := kv_q5_e e hw_16
  have hP : va_P D vwCl (kv_kw ci ad kc kh ks fo kl kp dy mo n pa aE qp qm ql qv qc qe o0_16 o1_16 o2_16 o3_16 o4_16 tn sc) H := hP
  have hD : va_D A (kv_kw ci ad kc kh ks fo kl kp dy mo n pa aE qp qm ql qv qc qe o0_16 o1_16 o2_16 o3_16 o4_16 tn sc) := hD
  refine lv_aload_n hx hb dX2_spare_19 rfl (lv_at hl 1 rfl) ?_
  refine lv_aload_n hx hb dX2_spare_20 rfl (lv_at hl 0 rfl) ?_
  refine lv_aload_n hx hb dX2_spare_21 rfl (lv_at hl 1 rfl) ?_
  refine va_get (D := D) (ci := 3) (v := .ref (ad 2)) (C := RX2) (T := TX2) (N := 9) hx hb hts hinRX2 hown hK hP 0 rfl rfl 1 (by decide) (hts (.fieldLink RX2 13 "LicenceKeeper" "hosts" "[I") (by decide +kernel)) (fun _ h9 => h9) rfl dX2_spare_22 ?_
  refine kv_callv (va_runV (As := [.ref (pa k_2), .ref (ad 2)]) (rest := []) ⟨hx, hb, hml, hown, hts⟩ (c_X2_takeUp l D ci ad kc kh ks fo kl kp dy mo n pa aE qp qm ql qv qc qe o0_16 o1_16 o2_16 o3_16 o4_16 tn sc k_2 kh hk_2 (ad 2) 2 (fun _ _ _ _ _ _ _ => rfl) (kv_q2_n e hRz) H.size) (cwV 2 hts gX2_spare_X2_takeUp rfl rfl rfl (by decide +kernel) ⟨Nat.le_of_ble_eq_true rfl, Nat.le_of_ble_eq_true rfl⟩) (kv_preV hK hP hD (r := (RX2, TX2, 9)) (q0 := 0) (k := 3) rfl rfl rfl) rfl rfl hl.1 rfl (lv_room (Nat.le_of_ble_eq_true rfl)) dX2_spare_25 ⟨Nat.le_of_ble_eq_true rfl, Nat.le_of_ble_eq_true rfl⟩) hD hS hA (fun u_25 H locs hw_25 hP hD hS => ?_)
  obtain ⟨o0_25, o1_25⟩ := u_25
  have e := kv_q2_e e hw_25
  have hP : va_P D vwCl (kv_kw ci ad kc kh ks fo kl kp dy mo n pa aE qp qm ql qv qc qe o0_25 o1_25 o2_16 o3_16 o4_16 tn sc) H := hP
  have hD : va_D A (kv_kw ci ad kc kh ks fo kl kp dy mo n pa aE qp qm ql qv qc qe o0_25 o1_25 o2_16 o3_16 o4_16 tn sc) := hD
  refine lv_aload_n hx hb dX2_spare_28 rfl (lv_at hl 1 rfl) ?_
  refine va_get (D := D) (ci := 3) (v := .ref (ad 8)) (C := RX2) (T := TX2) (N := 9) hx hb hts hinRX2 hown hK hP 0 rfl rfl 7 (by decide) (hts (.fieldLink RX2 40 "LicenceKeeper" "layings" "LLicenceKeeper$Layings;") (by decide +kernel)) (fun _ h9 => h9) rfl dX2_spare_29 ?_
  refine kv_callv (va_runV (As := []) (rest := []) ⟨hx, hb, hml, hown, hts⟩ (c_X0_layOpen l D ci ad kc kh ks fo kl kp dy mo n pa aE qp qm ql qv qc qe o0_25 o1_25 o2_16 o3_16 o4_16 tn sc  (kv_q1_n e hRz) H.size) (cwV 0 hts gX2_spare_X0_layOpen rfl rfl rfl (by decide +kernel) ⟨Nat.le_of_ble_eq_true rfl, Nat.le_of_ble_eq_true rfl⟩) (kv_preV hK hP hD (r := (RX0, TX0, 7)) (q0 := 8) (k := 1) rfl rfl rfl) rfl rfl hl.1 rfl (lv_room (Nat.le_of_ble_eq_true rfl)) dX2_spare_32 ⟨Nat.le_of_ble_eq_true rfl, Nat.le_of_ble_eq_true rfl⟩) hD hS hA (fun u_32 H locs hw_32 hP hD hS => ?_)
  have e := kv_q1_e e hw_32
  have hP : va_P D vwCl (kv_kw ci ad kc kh ks fo kl kp dy mo n pa aE qp qm ql qv qc qe o0_25 o1_25 o2_16 o3_16 u_32 tn sc) H := hP
  have hD : va_D A (kv_kw ci ad kc kh ks fo kl kp dy mo n pa aE qp qm ql qv qc qe o0_25 o1_25 o2_16 o3_16 u_32 tn sc) := hD
  refine lv_aload_n hx hb dX2_spare_35 rfl (lv_at hl 1 rfl) ?_
  refine va_get (D := D) (ci := 3) (v := .ref (ad 8)) (C := RX2) (T := TX2) (N := 9) hx hb hts hinRX2 hown hK hP 0 rfl rfl 7 (by decide) (hts (.fieldLink RX2 40 "LicenceKeeper" "layings" "LLicenceKeeper$Layings;") (by decide +kernel)) (fun _ h9 => h9) rfl dX2_spare_36 ?_
  refine lv_aload_n hx hb dX2_spare_39 rfl (lv_at hl 0 rfl) ?_
  refine va_get (D := D) (ci := 2) (v := .int (qc k_2)) (C := RX1) (T := TX1) (N := 6) hx hb hts hinRX1 hown hK hP (24 + k_2) (kv_rt hk_2) rfl 4 (by decide) (hts (.fieldLink RX2 112 "LicenceKeeper$Right" "count" "I") (by decide +kernel)) (fun _ h9 => h9) rfl dX2_spare_40 ?_
  refine kv_calli (va_runV (As := [.int (qc k_2)]) (rest := []) ⟨hx, hb, hml, hown, hts⟩ (c_X0_leastUncoveredWithin l D ci ad kc kh ks fo kl kp dy mo n pa aE qp qm ql qv qc qe o0_25 o1_25 o2_16 o3_16 u_32 tn sc (qc k_2) (kv_q1_n e hRz) H.size) (cwV 1 hts gX2_spare_X0_leastUncoveredWithin rfl rfl rfl (by decide +kernel) ⟨Nat.le_of_ble_eq_true rfl, Nat.le_of_ble_eq_true rfl⟩) (kv_preV hK hP hD (r := (RX0, TX0, 7)) (q0 := 8) (k := 1) rfl rfl rfl) rfl rfl hl.1 rfl (lv_room (Nat.le_of_ble_eq_true rfl)) dX2_spare_43 ⟨Nat.le_of_ble_eq_true rfl, Nat.le_of_ble_eq_true rfl⟩) hD hS hA (fun r_43 u_43 H locs hw_43 hP hD hS => ?_)
  have e := kv_q1_e e hw_43
  refine lv_istore_n (lv' := [(3, .int r_43), (2, .ref (pa k_2)), (0, .ref (ad 0)), (1, .int p0)]) hx hb dX2_spare_46 rfl hl (by decide) rfl (fun ls hl => ?_)
  refine lv_aload_n hx hb dX2_spare_47 rfl (lv_at hl 1 rfl) ?_
  refine va_get (D := D) (ci := 2) (v := .int (qc k_2)) (C := RX1) (T := TX1) (N := 6) hx hb hts hinRX1 hown hK hP (24 + k_2) (kv_rt hk_2) rfl 4 (by decide) (hts (.fieldLink RX2 112 "LicenceKeeper$Right" "count" "I") (by decide +kernel)) (fun _ h9 => h9) rfl dX2_spare_48 ?_
  refine lv_aload_n hx hb dX2_spare_51 rfl (lv_at hl 2 rfl) ?_
  refine va_get (D := D) (ci := 3) (v := .ref (ad 8)) (C := RX2) (T := TX2) (N := 9) hx hb hts hinRX2 hown hK hP 0 rfl rfl 7 (by decide) (hts (.fieldLink RX2 40 "LicenceKeeper" "layings" "LLicenceKeeper$Layings;") (by decide +kernel)) (fun _ h9 => h9) rfl dX2_spare_52 ?_
  refine lv_aload_n hx hb dX2_spare_55 rfl (lv_at hl 2 rfl) ?_
  refine va_get (D := D) (ci := 3) (v := .ref (ad 8)) (C := RX2) (T := TX2) (N := 9) hx hb hts hinRX2 hown hK hP 0 rfl rfl 7 (by decide) (hts (.fieldLink RX2 40 "LicenceKeeper" "layings" "LLicenceKeeper$Layings;") (by decide +kernel)) (fun _ h9 => h9) rfl dX2_spare_56 ?_
  refine lv_iload_n hx hb dX2_spare_59 rfl (lv_at hl 0 rfl) ?_
  refine kv_calli (va_runV (As := [.int r_43]) (rest := [.ref (ad 8), .int (qc k_2)]) ⟨hx, hb, hml, hown, hts⟩ (c_X0_weightOfSet l D ci ad kc kh ks fo kl kp dy mo n pa aE qp qm ql qv qc qe o0_25 o1_25 o2_16 o3_16 u_32 tn sc r_43 (kv_q1_n e hRz) H.size) (cwV 1 hts gX2_spare_X0_weightOfSet rfl rfl rfl (by decide +kernel) ⟨Nat.le_of_ble_eq_true rfl, Nat.le_of_ble_eq_true rfl⟩) (kv_preV hK hP hD (r := (RX0, TX0, 7)) (q0 := 8) (k := 1) rfl rfl rfl) rfl rfl hl.1 rfl (lv_room (Nat.le_of_ble_eq_true rfl)) dX2_spare_60 ⟨Nat.le_of_ble_eq_true rfl, Nat.le_of_ble_eq_true rfl⟩) hD hS hA (fun r_60 u_60 H locs hw_60 hP hD hS => ?_)
  have e := kv_q1_e e hw_60
  refine kv_calli (va_runV (As := [.int r_60]) (rest := [.int (qc k_2)]) ⟨hx, hb, hml, hown, hts⟩ (c_X0_leastTakenFor l D ci ad kc kh ks fo kl kp dy mo n pa aE qp qm ql qv qc qe o0_25 o1_25 o2_16 o3_16 u_32 tn sc r_60 (kv_q1_n e hRz) H.size) (cwV 1 hts gX2_spare_X0_leastTakenFor rfl rfl rfl (by decide +kernel) ⟨Nat.le_of_ble_eq_true rfl, Nat.le_of_ble_eq_true rfl⟩) (kv_preV hK hP hD (r := (RX0, TX0, 7)) (q0 := 8) (k := 1) rfl rfl rfl) rfl rfl hl.1 rfl (lv_room (Nat.le_of_ble_eq_true rfl)) dX2_spare_63 ⟨Nat.le_of_ble_eq_true rfl, Nat.le_of_ble_eq_true rfl⟩) hD hS hA (fun r_63 u_63 H locs hw_63 hP hD hS => ?_)
  have e := kv_q1_e e hw_63
  refine lv_isub hx hb dX2_spare_66 ?_
  rw [hQ]
  refine W.widen (k := 1) (n := 6) (Nat.le_of_ble_eq_true rfl) (Nat.le_of_ble_eq_true rfl) ?_
  refine vx_ret ?_
  exact W.iret (v := ((qc k_2) - r_63)) hx hb hr (fun t ht hW => ⟨⟨((qc k_2) - r_63), (o0_25, o1_25, o2_16, o3_16, u_32), rfl, e, ⟨by rw [ht]; exact hP, by rw [hAe]; exact hD⟩⟩, hS.F ht⟩) hS.2.2 dX2_spare_67
