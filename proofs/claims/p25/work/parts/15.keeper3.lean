section KVY
def kv_preY (D : va_G) (ci : Nat → Nat) (aS : Nat) (w0 : va_W) (sz : Nat) (U : State) : Prop := kv_preX D ci w0 sz U ∧ kv_lst aS (va_A w0 sz) U
theorem kv_preY_blind {D : va_G} {ci : Nat → Nat} {aS : Nat} {w0 : va_W} {sz : Nat} {av : List Value} : FrameBlind (va_Pc av (kv_preY D ci aS w0 sz)) := fun a U g mk q => ⟨q.1, (kv_preX_blind a U g mk ⟨q.1, q.2.1⟩).2, kv_lst_calling q.2.2⟩
variable {p : Program} {l : Launch} {e : Env} {R : Room} {s : State} {m : MethodId} {args : Array Value} {below : List Frame} {meth : Method} {c : Code} {H : Heap} {locs : List Loc} {A : Nat → Prop} {D : va_G} {ci : Nat → Nat} {w0 : va_W}
theorem kv_preVY {aS : Nat} {C : String} {b : Nat} {As : List Value} (hK : va_K D vwCl (kv_tys ci) s) (hP : va_P D vwCl w0 H) (hD : va_D A w0) (hT : kv_thr A s) (hT2 : kv_lst aS A s) (hS : va_S A s.heap H locs) (hA : ∀ q, s.heap.size ≤ q → A q) {r : vw_C} {q0 k : Nat} {fs : List Value} (hc : vwCl[k]? = some r) (hC : r.1 = C) (he : w0[q0]? = some (b, .inr (k, fs))) : PreV s H C b (va_Pc (.ref b :: As) (kv_preY D ci aS w0 H.size)) As := by
  subst hC
  exact ⟨kv_preY_blind, va_recv hK hP hc he, fun U hU hW => ⟨rfl, ⟨⟨by rw [hU], by rw [hU]; exact hP, va_K.moved hW.alike hK, hD.weaken (fun _ _ _ _ => trivial)⟩, kv_thr_at hT hS (kv_free hD hS hA) hU hW⟩, kv_lst_at hT2 hS (kv_free hD hS hA) hU hW⟩⟩
end KVY

def pf_X2_buy (kl : Nat → Int32) (dy : Int32) (p0 : Int32) (p1 : Int32) (p2 : Int32) (p3 : Int32) (mo : Int32) (n : Nat) (qp : Nat → Int32) (qm : Nat → Int32) (ql : Nat → Int32) (qv : Nat → Int32) (qc : Nat → Int32) (qe : Nat → Int32) : Option ((Int32 × Int32 × Nat × (Nat → Int32) × (Nat → Int32) × (Nat → Int32) × (Nat → Int32) × (Nat → Int32) × (Nat → Int32)) ⊕ Nat) :=
  kv_x0 (pf_X2_requireProduct p0) (kv_x0 (pf_X2_requireRange p1 0 1) (kv_x0 (pf_X2_requireRange p2 1 500) (kv_x0 (pf_X2_requireRange p3 0 1000) (kv_x0 (pf_X2_requireRoomForRight n) (kv_q9 (pf_X2_addRight kl p0 p1 p2 ((dy + p3) - 1) mo n qp qm ql qv qc qe) (fun r_44 o0_44 o1_44 o2_44 o3_44 o4_44 o5_44 o6_44 o7_44 => some (.inl (r_44, o0_44, o1_44, o2_44, o3_44, o4_44, o5_44, o6_44, o7_44))))))))
abbrev rmX2_buy : Room := { frames := 8, cells := 7, slots := 51, locals := 215 }
set_option maxHeartbeats 4000000 in
set_option maxRecDepth 100000 in
theorem c_X2_buy (l : Launch) (hl9 : l.stackTraces = false) (D : va_G) (ci ad : Nat → Nat) (aS : Nat) (kc : Nat → Int32) (kh : Nat → Int32) (ks : Nat → Int32) (fo : Nat → Nat → Int32) (kl : Nat → Int32) (kp : Nat → Int32) (dy : Int32) (mo : Int32) (n : Nat) (pa : Nat → Nat) (aE : Nat) (qp : Nat → Int32) (qm : Nat → Int32) (ql : Nat → Int32) (qv : Nat → Int32) (qc : Nat → Int32) (qe : Nat → Int32) (mt : Nat → Int32) (mv : Nat → Int32) (sw : Nat → Int32) (hv : Int32) (tk : Nat → Int32) (tn : Nat → Int32) (sc : Nat → Int32) (p0 : Int32) (p1 : Int32) (p2 : Int32) (p3 : Int32)  (hE : n = 0 → aE = aS) (hRn : pf_X2_buy kl dy p0 p1 p2 p3 mo n qp qm ql qv qc qe ≠ none) (sz : Nat) : vx_Met l yX2_buy wsX2_buy rmX2_buy (va_Pc [.ref (ad 0), .int p0, .int p1, .int p2, .int p3] (kv_preY D ci aS (kv_kw ci ad kc kh ks fo kl kp dy mo n pa aE qp qm ql qv qc qe mt mv sw hv tk tn sc) sz))  (va_Qi (fun (r : Int32) (u : Int32 × Nat × (Nat → Int32) × (Nat → Int32) × (Nat → Int32) × (Nat → Int32) × (Nat → Int32) × (Nat → Int32) × (Nat → Nat) × Nat) => pf_X2_buy kl dy p0 p1 p2 p3 mo n qp qm ql qv qc qe = some (.inl (r, (u.1, u.2.1, u.2.2.1, u.2.2.2.1, u.2.2.2.2.1, u.2.2.2.2.2.1, u.2.2.2.2.2.2.1, u.2.2.2.2.2.2.2.1)))) (fun u t => kv_post D (kv_kw ci ad kc kh ks fo kl kp dy mo n pa aE qp qm ql qv qc qe mt mv sw hv tk tn sc) sz (kv_kw ci ad kc kh ks fo kl kp dy u.1 u.2.1 u.2.2.2.2.2.2.2.2.1 u.2.2.2.2.2.2.2.2.2 u.2.2.1 u.2.2.2.1 u.2.2.2.2.1 u.2.2.2.2.2.1 u.2.2.2.2.2.2.1 u.2.2.2.2.2.2.2.1 mt mv sw hv tk tn sc) t) (va_A (kv_kw ci ad kc kh ks fo kl kp dy mo n pa aE qp qm ql qv qc qe mt mv sw hv tk tn sc) sz)) (vx_X (fun u : Nat => pf_X2_buy kl dy p0 p1 p2 p3 mo n qp qm ql qv qc qe = some (.inr u)) (fun E u t => E = kv_ex u ∧ kv_post D (kv_kw ci ad kc kh ks fo kl kp dy mo n pa aE qp qm ql qv qc qe mt mv sw hv tk tn sc) sz (kv_kw ci ad kc kh ks fo kl kp dy mo n pa aE qp qm ql qv qc qe mt mv sw hv tk tn sc) t) (va_A (kv_kw ci ad kc kh ks fo kl kp dy mo n pa aE qp qm ql qv qc qe mt mv sw hv tk tn sc) sz)) 7 51 (va_A (kv_kw ci ad kc kh ks fo kl kp dy mo n pa aE qp qm ql qv qc qe mt mv sw hv tk tn sc) sz) := by
  refine vx_ofW (cc := cX2_buy) (maxL := 5) (ret := (some .int)) (by decide) rfl ?_
  intro p en s m args below meth c s₁ B hml hex hv
  obtain ⟨hv0, ⟨⟨hsz, hP, hK, hD0⟩, hT⟩, hT2⟩ := hv
  have hx := B.exec
  have hb := B.bytes
  have hr := B.returns
  have hts := atoms_spec (ws := wsX2_buy) B.pre
  have hown : s.vm.findClass RX2 = some m.cls := findClass_of_methodNamed B.named
  have hlocks := B.notSynchronized
  subst hsz
  have hD := hD0.self (sz := s.heap.size)
  generalize hAe : va_A (kv_kw ci ad kc kh ks fo kl kp dy mo n pa aE qp qm ql qv qc qe mt mv sw hv tk tn sc) s.heap.size = A at hD hT hT2 ⊢
  have hA : ∀ q : Nat, s.heap.size ≤ q → A q := fun q h => by rw [← hAe]; exact Or.inr h
  have hS : va_S A s.heap s.heap [] := va_S.rf
  have hP : va_P D vwCl (kv_kw ci ad kc kh ks fo kl kp dy mo n pa aE qp qm ql qv qc qe mt mv sw hv tk tn sc) s.heap := hP
  have hinRX2 : ∀ w ∈ u_ws RX2 TX2 9, w ∈ wsX2_buy := by decide +kernel
  generalize hRd : pf_X2_buy kl dy p0 p1 p2 p3 mo n qp qm ql qv qc qe = Rz at hRn
  have hRz := hRn
  refine kv_Q (fun Q hQ => ?_)
  refine W.eq (show entryFrame m args 5 = _ from by rw [hv0, lg_entry_eq]) ?_
  have hl := lv_entry ([.ref (ad 0), .int p0, .int p1, .int p2, .int p3]) (n := 5) (Nat.le_of_ble_eq_true rfl)
  generalize (lg_sl ([.ref (ad 0), .int p0, .int p1, .int p2, .int p3]) ++ List.replicate (5 - (lg_sl ([.ref (ad 0), .int p0, .int p1, .int p2, .int p3])).length) Slot.unset).toArray = ls at hl ⊢
  have hl : lv_has ls 5 [(0, .ref (ad 0)), (1, .int p0), (2, .int p1), (3, .int p2), (4, .int p3)] := hl
  have e : Rz = pf_X2_buy kl dy p0 p1 p2 p3 mo n qp qm ql qv qc qe := hRd.symm
  rw [pf_X2_buy] at e
  refine lv_iload_n hx hb dX2_buy_0 rfl (lv_at hl 1 rfl) ?_
  refine kv_xcallv (vx_runS (As := [.int p0]) (rest := []) ⟨hx, hb, hml, hown, hts⟩ (c_X2_requireProduct l hl9 D ci ad kc kh ks fo kl kp dy mo n pa aE qp qm ql qv qc qe mt mv sw hv tk tn sc p0 (kv_x0_n e hRz) s.heap.size) (va_cwS 1 hts gX2_buy_X2_requireProduct rfl rfl rfl (by decide +kernel) ⟨Nat.le_of_ble_eq_true rfl, Nat.le_of_ble_eq_true rfl⟩) (kv_preSX hK hP hD hT hS hA) rfl rfl hl.1 rfl (lv_room (Nat.le_of_ble_eq_true rfl)) dX2_buy_1 ⟨Nat.le_of_ble_eq_true rfl, Nat.le_of_ble_eq_true rfl⟩) hD hS hA (fun ce q9 u9 H locs hw9 hP hD hS h1 h2 h3 => ?_) (fun u_1 H locs hw_1 hP hD hS => ?_)
  · rw [hQ]
    exact vx_out (fun x h => (hex x h).elim) hlocks h1 h2 h3 (fun t ht hvm => ⟨u9, kv_x0_t e hw9, ⟨rfl, by rw [ht]; exact hP, by rw [hAe]; exact hD⟩, hS.F ht⟩) hS.2.2 (Nat.le_of_ble_eq_true rfl) (Nat.le_of_ble_eq_true rfl)
  have e := kv_x0_e e hw_1
  refine lv_iload_n hx hb dX2_buy_4 rfl (lv_at hl 2 rfl) ?_
  refine lv_iconst (v := 0) hx hb dX2_buy_5 (by decide) ?_
  refine lv_iconst (v := 1) hx hb dX2_buy_6 (by decide) ?_
  refine kv_xcallv (vx_runS (As := [.int p1, .int 0, .int 1]) (rest := []) ⟨hx, hb, hml, hown, hts⟩ (c_X2_requireRange l hl9 D ci ad kc kh ks fo kl kp dy mo n pa aE qp qm ql qv qc qe mt mv sw hv tk tn sc p1 0 1 (kv_x0_n e hRz) H.size) (va_cwS 3 hts gX2_buy_X2_requireRange rfl rfl rfl (by decide +kernel) ⟨Nat.le_of_ble_eq_true rfl, Nat.le_of_ble_eq_true rfl⟩) (kv_preSX hK hP hD hT hS hA) rfl rfl hl.1 rfl (lv_room (Nat.le_of_ble_eq_true rfl)) dX2_buy_7 ⟨Nat.le_of_ble_eq_true rfl, Nat.le_of_ble_eq_true rfl⟩) hD hS hA (fun ce q9 u9 H locs hw9 hP hD hS h1 h2 h3 => ?_) (fun u_7 H locs hw_7 hP hD hS => ?_)
  · rw [hQ]
    exact vx_out (fun x h => (hex x h).elim) hlocks h1 h2 h3 (fun t ht hvm => ⟨u9, kv_x0_t e hw9, ⟨rfl, by rw [ht]; exact hP, by rw [hAe]; exact hD⟩, hS.F ht⟩) hS.2.2 (Nat.le_of_ble_eq_true rfl) (Nat.le_of_ble_eq_true rfl)
  have e := kv_x0_e e hw_7
  refine lv_iload_n hx hb dX2_buy_10 rfl (lv_at hl 3 rfl) ?_
  refine lv_iconst (v := 1) hx hb dX2_buy_11 (by decide) ?_
  refine lv_sipush (v := 500) hx hb dX2_buy_12 (by decide) ?_
  refine kv_xcallv (vx_runS (As := [.int p2, .int 1, .int 500]) (rest := []) ⟨hx, hb, hml, hown, hts⟩ (c_X2_requireRange l hl9 D ci ad kc kh ks fo kl kp dy mo n pa aE qp qm ql qv qc qe mt mv sw hv tk tn sc p2 1 500 (kv_x0_n e hRz) H.size) (va_cwS 3 hts gX2_buy_X2_requireRange rfl rfl rfl (by decide +kernel) ⟨Nat.le_of_ble_eq_true rfl, Nat.le_of_ble_eq_true rfl⟩) (kv_preSX hK hP hD hT hS hA) rfl rfl hl.1 rfl (lv_room (Nat.le_of_ble_eq_true rfl)) dX2_buy_15 ⟨Nat.le_of_ble_eq_true rfl, Nat.le_of_ble_eq_true rfl⟩) hD hS hA (fun ce q9 u9 H locs hw9 hP hD hS h1 h2 h3 => ?_) (fun u_15 H locs hw_15 hP hD hS => ?_)
  · rw [hQ]
    exact vx_out (fun x h => (hex x h).elim) hlocks h1 h2 h3 (fun t ht hvm => ⟨u9, kv_x0_t e hw9, ⟨rfl, by rw [ht]; exact hP, by rw [hAe]; exact hD⟩, hS.F ht⟩) hS.2.2 (Nat.le_of_ble_eq_true rfl) (Nat.le_of_ble_eq_true rfl)
  have e := kv_x0_e e hw_15
  refine lv_iload hx hb dX2_buy_18 (lv_at hl 4 rfl) ?_
  refine lv_iconst (v := 0) hx hb dX2_buy_20 (by decide) ?_
  refine lv_sipush (v := 1000) hx hb dX2_buy_21 (by decide) ?_
  refine kv_xcallv (vx_runS (As := [.int p3, .int 0, .int 1000]) (rest := []) ⟨hx, hb, hml, hown, hts⟩ (c_X2_requireRange l hl9 D ci ad kc kh ks fo kl kp dy mo n pa aE qp qm ql qv qc qe mt mv sw hv tk tn sc p3 0 1000 (kv_x0_n e hRz) H.size) (va_cwS 3 hts gX2_buy_X2_requireRange rfl rfl rfl (by decide +kernel) ⟨Nat.le_of_ble_eq_true rfl, Nat.le_of_ble_eq_true rfl⟩) (kv_preSX hK hP hD hT hS hA) rfl rfl hl.1 rfl (lv_room (Nat.le_of_ble_eq_true rfl)) dX2_buy_24 ⟨Nat.le_of_ble_eq_true rfl, Nat.le_of_ble_eq_true rfl⟩) hD hS hA (fun ce q9 u9 H locs hw9 hP hD hS h1 h2 h3 => ?_) (fun u_24 H locs hw_24 hP hD hS => ?_)
  · rw [hQ]
    exact vx_out (fun x h => (hex x h).elim) hlocks h1 h2 h3 (fun t ht hvm => ⟨u9, kv_x0_t e hw9, ⟨rfl, by rw [ht]; exact hP, by rw [hAe]; exact hD⟩, hS.F ht⟩) hS.2.2 (Nat.le_of_ble_eq_true rfl) (Nat.le_of_ble_eq_true rfl)
  have e := kv_x0_e e hw_24
  refine lv_aload_n hx hb dX2_buy_27 rfl (lv_at hl 0 rfl) ?_
  refine kv_xcallv (vx_runV (As := []) (rest := []) ⟨hx, hb, hml, hown, hts⟩ (c_X2_requireRoomForRight l hl9 D ci ad kc kh ks fo kl kp dy mo n pa aE qp qm ql qv qc qe mt mv sw hv tk tn sc  (kv_x0_n e hRz) H.size) (cwV 0 hts gX2_buy_X2_requireRoomForRight rfl rfl rfl (by decide +kernel) ⟨Nat.le_of_ble_eq_true rfl, Nat.le_of_ble_eq_true rfl⟩) (kv_preVX hK hP hD hT hS hA (r := (RX2, TX2, 9)) (q0 := 0) (k := 3) rfl rfl rfl) rfl rfl hl.1 rfl (lv_room (Nat.le_of_ble_eq_true rfl)) dX2_buy_28 ⟨Nat.le_of_ble_eq_true rfl, Nat.le_of_ble_eq_true rfl⟩) hD hS hA (fun ce q9 u9 H locs hw9 hP hD hS h1 h2 h3 => ?_) (fun u_28 H locs hw_28 hP hD hS => ?_)
  · rw [hQ]
    exact vx_out (fun x h => (hex x h).elim) hlocks h1 h2 h3 (fun t ht hvm => ⟨u9, kv_x0_t e hw9, ⟨rfl, by rw [ht]; exact hP, by rw [hAe]; exact hD⟩, hS.F ht⟩) hS.2.2 (Nat.le_of_ble_eq_true rfl) (Nat.le_of_ble_eq_true rfl)
  have e := kv_x0_e e hw_28
  refine lv_aload_n hx hb dX2_buy_31 rfl (lv_at hl 0 rfl) ?_
  refine lv_iload_n hx hb dX2_buy_32 rfl (lv_at hl 1 rfl) ?_
  refine lv_iload_n hx hb dX2_buy_33 rfl (lv_at hl 2 rfl) ?_
  refine lv_iload_n hx hb dX2_buy_34 rfl (lv_at hl 3 rfl) ?_
  refine lv_aload_n hx hb dX2_buy_35 rfl (lv_at hl 0 rfl) ?_
  refine va_get (D := D) (ci := 3) (v := .int dy) (C := RX2) (T := TX2) (N := 9) hx hb hts hinRX2 hown hK hP 0 rfl rfl 8 (by decide) (hts (.fieldLink RX2 44 "LicenceKeeper" "day" "I") (by decide +kernel)) (fun _ h9 => h9) rfl dX2_buy_36 ?_
  refine lv_iload hx hb dX2_buy_39 (lv_at hl 4 rfl) ?_
  refine lv_iadd hx hb dX2_buy_41 ?_
  refine lv_iconst (v := 1) hx hb dX2_buy_42 (by decide) ?_
  refine lv_isub hx hb dX2_buy_43 ?_
  refine kv_calli (va_runV (As := [.int p0, .int p1, .int p2, .int ((dy + p3) - 1)]) (rest := []) ⟨hx, hb, hml, hown, hts⟩ (c_X2_addRight l D ci ad aS kc kh ks fo kl kp dy mo n pa aE qp qm ql qv qc qe mt mv sw hv tk tn sc p0 p1 p2 ((dy + p3) - 1) hE (kv_q9_n e hRz) H.size) (cwV 4 hts gX2_buy_X2_addRight rfl rfl rfl (by decide +kernel) ⟨Nat.le_of_ble_eq_true rfl, Nat.le_of_ble_eq_true rfl⟩) (kv_preVL hK hP hD hT2 hS hA (r := (RX2, TX2, 9)) (q0 := 0) (k := 3) rfl rfl rfl) rfl rfl hl.1 rfl (lv_room (Nat.le_of_ble_eq_true rfl)) dX2_buy_44 ⟨Nat.le_of_ble_eq_true rfl, Nat.le_of_ble_eq_true rfl⟩) hD hS hA (fun r_44 u_44 H locs hw_44 hP hD hS => ?_)
  obtain ⟨o0_44, o1_44, o2_44, o3_44, o4_44, o5_44, o6_44, o7_44, o8_44, o9_44⟩ := u_44
  have e := kv_q9_e e hw_44
  have hP : va_P D vwCl (kv_kw ci ad kc kh ks fo kl kp dy o0_44 o1_44 o8_44 o9_44 o2_44 o3_44 o4_44 o5_44 o6_44 o7_44 mt mv sw hv tk tn sc) H := hP
  have hD : va_D A (kv_kw ci ad kc kh ks fo kl kp dy o0_44 o1_44 o8_44 o9_44 o2_44 o3_44 o4_44 o5_44 o6_44 o7_44 mt mv sw hv tk tn sc) := hD
  rw [hQ]
  refine W.widen (k := 7) (n := 51) (Nat.le_of_ble_eq_true rfl) (Nat.le_of_ble_eq_true rfl) ?_
  refine vx_ret ?_
  exact W.iret (v := r_44) hx hb hr (fun t ht hW => ⟨⟨r_44, (o0_44, o1_44, o2_44, o3_44, o4_44, o5_44, o6_44, o7_44, o8_44, o9_44), rfl, e, ⟨by rw [ht]; exact hP, by rw [hAe]; exact hD⟩⟩, hS.F ht⟩) hS.2.2 dX2_buy_47

def pf_X2_upgrade (kl : Nat → Int32) (p0 : Int32) (p1 : Int32) (mo : Int32) (n : Nat) (qp : Nat → Int32) (qm : Nat → Int32) (ql : Nat → Int32) (qv : Nat → Int32) (qc : Nat → Int32) (qe : Nat → Int32) : Option ((Int32 × Int32 × Nat × (Nat → Int32) × (Nat → Int32) × (Nat → Int32) × (Nat → Int32) × (Nat → Int32) × (Nat → Int32)) ⊕ Nat) :=
  kv_x1 (pf_X2_rightAt n p0) (fun k_2 => kv_x0 (pf_X2_requireRange p1 1 500) (kv_x0 (pf_X2_requireCount n qc k_2 p1) (kv_G (qp k_2) 4 (kv_T (kl (qp k_2).toNatClampNeg) (fun y_31 => if (qv k_2) = y_31 then some (.inr 3) else kv_x0 (pf_X2_requireRoomForRight n) (kv_T ((qc k_2) - p1) (fun y_56 => kv_T (upd qc k_2 y_56) (fun g_56 => kv_q9 (pf_X2_addRight kl (qp k_2) (qm k_2) p1 (ql k_2) mo n qp qm ql qv g_56 qe) (fun r_73 o0_73 o1_73 o2_73 o3_73 o4_73 o5_73 o6_73 o7_73 => some (.inl (r_73, o0_73, o1_73, o2_73, o3_73, o4_73, o5_73, o6_73, o7_73)))))))))))
abbrev rmX2_upgrade : Room := { frames := 8, cells := 6, slots := 45, locals := 215 }
set_option maxHeartbeats 4000000 in
set_option maxRecDepth 100000 in
theorem c_X2_upgrade (l : Launch) (hl9 : l.stackTraces = false) (D : va_G) (ci ad : Nat → Nat) (aS : Nat) (kc : Nat → Int32) (kh : Nat → Int32) (ks : Nat → Int32) (fo : Nat → Nat → Int32) (kl : Nat → Int32) (kp : Nat → Int32) (dy : Int32) (mo : Int32) (n : Nat) (pa : Nat → Nat) (aE : Nat) (qp : Nat → Int32) (qm : Nat → Int32) (ql : Nat → Int32) (qv : Nat → Int32) (qc : Nat → Int32) (qe : Nat → Int32) (mt : Nat → Int32) (mv : Nat → Int32) (sw : Nat → Int32) (hv : Int32) (tk : Nat → Int32) (tn : Nat → Int32) (sc : Nat → Int32) (p0 : Int32) (p1 : Int32)  (hE : n = 0 → aE = aS) (hRn : pf_X2_upgrade kl p0 p1 mo n qp qm ql qv qc qe ≠ none) (sz : Nat) : vx_Met l yX2_upgrade wsX2_upgrade rmX2_upgrade (va_Pc [.ref (ad 0), .int p0, .int p1] (kv_preY D ci aS (kv_kw ci ad kc kh ks fo kl kp dy mo n pa aE qp qm ql qv qc qe mt mv sw hv tk tn sc) sz))  (va_Qi (fun (r : Int32) (u : Int32 × Nat × (Nat → Int32) × (Nat → Int32) × (Nat → Int32) × (Nat → Int32) × (Nat → Int32) × (Nat → Int32) × (Nat → Nat) × Nat) => pf_X2_upgrade kl p0 p1 mo n qp qm ql qv qc qe = some (.inl (r, (u.1, u.2.1, u.2.2.1, u.2.2.2.1, u.2.2.2.2.1, u.2.2.2.2.2.1, u.2.2.2.2.2.2.1, u.2.2.2.2.2.2.2.1)))) (fun u t => kv_post D (kv_kw ci ad kc kh ks fo kl kp dy mo n pa aE qp qm ql qv qc qe mt mv sw hv tk tn sc) sz (kv_kw ci ad kc kh ks fo kl kp dy u.1 u.2.1 u.2.2.2.2.2.2.2.2.1 u.2.2.2.2.2.2.2.2.2 u.2.2.1 u.2.2.2.1 u.2.2.2.2.1 u.2.2.2.2.2.1 u.2.2.2.2.2.2.1 u.2.2.2.2.2.2.2.1 mt mv sw hv tk tn sc) t) (va_A (kv_kw ci ad kc kh ks fo kl kp dy mo n pa aE qp qm ql qv qc qe mt mv sw hv tk tn sc) sz)) (vx_X (fun u : Nat => pf_X2_upgrade kl p0 p1 mo n qp qm ql qv qc qe = some (.inr u)) (fun E u t => E = kv_ex u ∧ kv_post D (kv_kw ci ad kc kh ks fo kl kp dy mo n pa aE qp qm ql qv qc qe mt mv sw hv tk tn sc) sz (kv_kw ci ad kc kh ks fo kl kp dy mo n pa aE qp qm ql qv qc qe mt mv sw hv tk tn sc) t) (va_A (kv_kw ci ad kc kh ks fo kl kp dy mo n pa aE qp qm ql qv qc qe mt mv sw hv tk tn sc) sz)) 6 45 (va_A (kv_kw ci ad kc kh ks fo kl kp dy mo n pa aE qp qm ql qv qc qe mt mv sw hv tk tn sc) sz) := by
  refine vx_ofW (cc := cX2_upgrade) (maxL := 4) (ret := (some .int)) (by decide) rfl ?_
  intro p en s m args below meth c s₁ B hml hex hv
  obtain ⟨hv0, ⟨⟨hsz, hP, hK, hD0⟩, hT⟩, hT2⟩ := hv
  have hx := B.exec
  have hb := B.bytes
  have hr := B.returns
  have hts := atoms_spec (ws := wsX2_upgrade) B.pre
  have hown : s.vm.findClass RX2 = some m.cls := findClass_of_methodNamed B.named
  have hlocks := B.notSynchronized
  subst hsz
  have hD := hD0.self (sz := s.heap.size)
  generalize hAe : va_A (kv_kw ci ad kc kh ks fo kl kp dy mo n pa aE qp qm ql qv qc qe mt mv sw hv tk tn sc) s.heap.size = A at hD hT hT2 ⊢
  have hA : ∀ q : Nat, s.heap.size ≤ q → A q := fun q h => by rw [← hAe]; exact Or.inr h
  have hS : va_S A s.heap s.heap [] := va_S.rf
  have hP : va_P D vwCl (kv_kw ci ad kc kh ks fo kl kp dy mo n pa aE qp qm ql qv qc qe mt mv sw hv tk tn sc) s.heap := hP
  have hinRX1 : ∀ w ∈ u_ws RX1 TX1 6, w ∈ wsX2_upgrade := by decide +kernel
  have hinRX2 : ∀ w ∈ u_ws RX2 TX2 9, w ∈ wsX2_upgrade := by decide +kernel
  generalize hRd : pf_X2_upgrade kl p0 p1 mo n qp qm ql qv qc qe = Rz at hRn
  have hRz := hRn
  refine kv_Q (fun Q hQ => ?_)
  refine W.eq (show entryFrame m args 4 = _ from by rw [hv0, lg_entry_eq]) ?_
  have hl := lv_entry ([.ref (ad 0), .int p0, .int p1]) (n := 4) (Nat.le_of_ble_eq_true rfl)
  generalize (lg_sl ([.ref (ad 0), .int p0, .int p1]) ++ List.replicate (4 - (lg_sl ([.ref (ad 0), .int p0, .int p1])).length) Slot.unset).toArray = ls at hl ⊢
  have hl : lv_has ls 4 [(0, .ref (ad 0)), (1, .int p0), (2, .int p1)] := hl
  have e : Rz = pf_X2_upgrade kl p0 p1 mo n qp qm ql qv qc qe := hRd.symm
  rw [pf_X2_upgrade] at e
  refine lv_aload_n hx hb dX2_upgrade_0 rfl (lv_at hl 0 rfl) ?_
  refine lv_iload_n hx hb dX2_upgrade_1 rfl (lv_at hl 1 rfl) ?_
  refine kv_xcallq (pa := pa) (n := n) (vx_runV (As := [.int p0]) (rest := []) ⟨hx, hb, hml, hown, hts⟩ (c_X2_rightAt l hl9 D ci ad kc kh ks fo kl kp dy mo n pa aE qp qm ql qv qc qe mt mv sw hv tk tn sc p0 (kv_x1_n e hRz) s.heap.size) (cwV 1 hts gX2_upgrade_X2_rightAt rfl rfl rfl (by decide +kernel) ⟨Nat.le_of_ble_eq_true rfl, Nat.le_of_ble_eq_true rfl⟩) (kv_preVX hK hP hD hT hS hA (r := (RX2, TX2, 9)) (q0 := 0) (k := 3) rfl rfl rfl) rfl rfl hl.1 rfl (lv_room (Nat.le_of_ble_eq_true rfl)) dX2_upgrade_2 ⟨Nat.le_of_ble_eq_true rfl, Nat.le_of_ble_eq_true rfl⟩) hD hS hA (fun ce q9 u9 H locs hw9 hP hD hS h1 h2 h3 => ?_) (fun k_2 H locs hk_2 hw_2 hP hD hS => ?_)
  · rw [hQ]
    exact vx_out (fun x h => (hex x h).elim) hlocks h1 h2 h3 (fun t ht hvm => ⟨u9, kv_x1_t e hw9, ⟨rfl, by rw [ht]; exact hP, by rw [hAe]; exact hD⟩, hS.F ht⟩) hS.2.2 (Nat.le_of_ble_eq_true rfl) (Nat.le_of_ble_eq_true rfl)
  have e := kv_x1_e e hw_2
  refine lv_astore_n (lv' := [(3, .ref (pa k_2)), (0, .ref (ad 0)), (1, .int p0), (2, .int p1)]) hx hb dX2_upgrade_5 rfl hl (by decide) rfl (fun ls hl => ?_)
  refine lv_iload_n hx hb dX2_upgrade_6 rfl (lv_at hl 3 rfl) ?_
  refine lv_iconst (v := 1) hx hb dX2_upgrade_7 (by decide) ?_
  refine lv_sipush (v := 500) hx hb dX2_upgrade_8 (by decide) ?_
  refine kv_xcallv (vx_runS (As := [.int p1, .int 1, .int 500]) (rest := []) ⟨hx, hb, hml, hown, hts⟩ (c_X2_requireRange l hl9 D ci ad kc kh ks fo kl kp dy mo n pa aE qp qm ql qv qc qe mt mv sw hv tk tn sc p1 1 500 (kv_x0_n e hRz) H.size) (va_cwS 3 hts gX2_upgrade_X2_requireRange rfl rfl rfl (by decide +kernel) ⟨Nat.le_of_ble_eq_true rfl, Nat.le_of_ble_eq_true rfl⟩) (kv_preSX hK hP hD hT hS hA) rfl rfl hl.1 rfl (lv_room (Nat.le_of_ble_eq_true rfl)) dX2_upgrade_11 ⟨Nat.le_of_ble_eq_true rfl, Nat.le_of_ble_eq_true rfl⟩) hD hS hA (fun ce q9 u9 H locs hw9 hP hD hS h1 h2 h3 => ?_) (fun u_11 H locs hw_11 hP hD hS => ?_)
  · rw [hQ]
    exact vx_out (fun x h => (hex x h).elim) hlocks h1 h2 h3 (fun t ht hvm => ⟨u9, kv_x0_t e hw9, ⟨rfl, by rw [ht]; exact hP, by rw [hAe]; exact hD⟩, hS.F ht⟩) hS.2.2 (Nat.le_of_ble_eq_true rfl) (Nat.le_of_ble_eq_true rfl)
  have e := kv_x0_e e hw_11
  refine lv_aload_n hx hb dX2_upgrade_14 rfl (lv_at hl 0 rfl) ?_
  refine lv_iload_n hx hb dX2_upgrade_15 rfl (lv_at hl 3 rfl) ?_
  refine kv_xcallv (vx_runS (As := [.ref (pa k_2), .int p1]) (rest := []) ⟨hx, hb, hml, hown, hts⟩ (c_X2_requireCount l hl9 D ci ad kc kh ks fo kl kp dy mo n pa aE qp qm ql qv qc qe mt mv sw hv tk tn sc k_2 p1 hk_2 (kv_x0_n e hRz) H.size) (va_cwS 2 hts gX2_upgrade_X2_requireCount rfl rfl rfl (by decide +kernel) ⟨Nat.le_of_ble_eq_true rfl, Nat.le_of_ble_eq_true rfl⟩) (kv_preSX hK hP hD hT hS hA) rfl rfl hl.1 rfl (lv_room (Nat.le_of_ble_eq_true rfl)) dX2_upgrade_16 ⟨Nat.le_of_ble_eq_true rfl, Nat.le_of_ble_eq_true rfl⟩) hD hS hA (fun ce q9 u9 H locs hw9 hP hD hS h1 h2 h3 => ?_) (fun u_16 H locs hw_16 hP hD hS => ?_)
  · rw [hQ]
    exact vx_out (fun x h => (hex x h).elim) hlocks h1 h2 h3 (fun t ht hvm => ⟨u9, kv_x0_t e hw9, ⟨rfl, by rw [ht]; exact hP, by rw [hAe]; exact hD⟩, hS.F ht⟩) hS.2.2 (Nat.le_of_ble_eq_true rfl) (Nat.le_of_ble_eq_true rfl)
  have e := kv_x0_e e hw_16
  refine lv_aload_n hx hb dX2_upgrade_19 rfl (lv_at hl 0 rfl) ?_
  refine va_get (D := D) (ci := 2) (v := .int (qv k_2)) (C := RX1) (T := TX1) (N := 6) hx hb hts hinRX1 hown hK hP (24 + k_2) (kv_rt hk_2) rfl 3 (by decide) (hts (.fieldLink RX2 89 "LicenceKeeper$Right" "version" "I") (by decide +kernel)) (fun _ h9 => h9) rfl dX2_upgrade_20 ?_
  refine lv_aload_n hx hb dX2_upgrade_23 rfl (lv_at hl 1 rfl) ?_
  refine va_get (D := D) (ci := 3) (v := .ref (ad 5)) (C := RX2) (T := TX2) (N := 9) hx hb hts hinRX2 hown hK hP 0 rfl rfl 4 (by decide) (hts (.fieldLink RX2 24 "LicenceKeeper" "latestVersions" "[I") (by decide +kernel)) (fun _ h9 => h9) rfl dX2_upgrade_24 ?_
  refine lv_aload_n hx hb dX2_upgrade_27 rfl (lv_at hl 0 rfl) ?_
  refine va_get (D := D) (ci := 2) (v := .int (qp k_2)) (C := RX1) (T := TX1) (N := 6) hx hb hts hinRX1 hown hK hP (24 + k_2) (kv_rt hk_2) rfl 0 (by decide) (hts (.fieldLink RX2 86 "LicenceKeeper$Right" "product" "I") (by decide +kernel)) (fun _ h9 => h9) rfl dX2_upgrade_28 ?_
  obtain ⟨hi_31, e⟩ := kv_G_e e hRz
  refine kv_iald hx hb hK hP 5 0 hi_31 dX2_upgrade_31 rfl rfl (fun y_31 ey_31 => ?_)
  have e := kv_T_e e ey_31
  refine lv_icmp_ne (tgt := 45) hx hb dX2_upgrade_32 (by decide) (fun c_32 => ?_) (fun c_32 => ?_)
  · have e := e.trans (if_neg c_32)
    refine lv_aload_n hx hb dX2_upgrade_45 rfl (lv_at hl 1 rfl) ?_
    refine kv_xcallv (vx_runV (As := []) (rest := []) ⟨hx, hb, hml, hown, hts⟩ (c_X2_requireRoomForRight l hl9 D ci ad kc kh ks fo kl kp dy mo n pa aE qp qm ql qv qc qe mt mv sw hv tk tn sc  (kv_x0_n e hRz) H.size) (cwV 0 hts gX2_upgrade_X2_requireRoomForRight rfl rfl rfl (by decide +kernel) ⟨Nat.le_of_ble_eq_true rfl, Nat.le_of_ble_eq_true rfl⟩) (kv_preVX hK hP hD hT hS hA (r := (RX2, TX2, 9)) (q0 := 0) (k := 3) rfl rfl rfl) rfl rfl hl.1 rfl (lv_room (Nat.le_of_ble_eq_true rfl)) dX2_upgrade_46 ⟨Nat.le_of_ble_eq_true rfl, Nat.le_of_ble_eq_true rfl⟩) hD hS hA (fun ce q9 u9 H locs hw9 hP hD hS h1 h2 h3 => ?_) (fun u_46 H locs hw_46 hP hD hS => ?_)
    · rw [hQ]
      exact vx_out (fun x h => (hex x h).elim) hlocks h1 h2 h3 (fun t ht hvm => ⟨u9, kv_x0_t e hw9, ⟨rfl, by rw [ht]; exact hP, by rw [hAe]; exact hD⟩, hS.F ht⟩) hS.2.2 (Nat.le_of_ble_eq_true rfl) (Nat.le_of_ble_eq_true rfl)
    have e := kv_x0_e e hw_46
    refine lv_aload_n hx hb dX2_upgrade_49 rfl (lv_at hl 0 rfl) ?_
    refine lv_dup hx hb dX2_upgrade_50 rfl ?_
    refine va_get (D := D) (ci := 2) (v := .int (qc k_2)) (C := RX1) (T := TX1) (N := 6) hx hb hts hinRX1 hown hK hP (24 + k_2) (kv_rt hk_2) rfl 4 (by decide) (hts (.fieldLink RX2 112 "LicenceKeeper$Right" "count" "I") (by decide +kernel)) (fun _ h9 => h9) rfl dX2_upgrade_51 ?_
    refine lv_iload_n hx hb dX2_upgrade_54 rfl (lv_at hl 3 rfl) ?_
    refine lv_isub hx hb dX2_upgrade_55 ?_
    refine lv_topi (fun y_56 ey_56 => ?_)
    have e := kv_T_e e ey_56
    refine va_put (D := D) (ci := 2) (v := .int y_56) (ty := .int) (C := RX1) (T := TX1) (N := 6) hx hb hts hinRX1 tyX1 tyX1_ok nmX1 hown hK hP hD hS (24 + k_2) (kv_rt hk_2) rfl 4 (by decide) (hts (.fieldLink RX2 112 "LicenceKeeper$Right" "count" "I") (by decide +kernel)) (fun _ h9 => h9) rfl (by decide +kernel) rfl rfl (Nat.le_of_ble_eq_true rfl) dX2_upgrade_56 (fun H locs hP hD hS => ?_)
    have hP : va_P D vwCl (kv_kw ci ad kc kh ks fo kl kp dy mo n pa aE qp qm ql qv (upd qc k_2 y_56) qe mt mv sw hv tk tn sc) H := by rw [← kv_rset_c hk_2 y_56]; exact hP
    have hD : va_D A (kv_kw ci ad kc kh ks fo kl kp dy mo n pa aE qp qm ql qv (upd qc k_2 y_56) qe mt mv sw hv tk tn sc) := by rw [← kv_rset_c hk_2 y_56]; exact hD
    obtain ⟨g_56, eg_56⟩ : ∃ g, g = upd qc k_2 y_56 := ⟨_, rfl⟩
    rw [← eg_56] at hP hD
    have e := kv_T_e e eg_56
    refine lv_aload_n hx hb dX2_upgrade_59 rfl (lv_at hl 1 rfl) ?_
    refine lv_aload_n hx hb dX2_upgrade_60 rfl (lv_at hl 0 rfl) ?_
    refine va_get (D := D) (ci := 2) (v := .int (qp k_2)) (C := RX1) (T := TX1) (N := 6) hx hb hts hinRX1 hown hK hP (24 + k_2) (kv_rt hk_2) rfl 0 (by decide) (hts (.fieldLink RX2 86 "LicenceKeeper$Right" "product" "I") (by decide +kernel)) (fun _ h9 => h9) rfl dX2_upgrade_61 ?_
    refine lv_aload_n hx hb dX2_upgrade_64 rfl (lv_at hl 0 rfl) ?_
    refine va_get (D := D) (ci := 2) (v := .int (qm k_2)) (C := RX1) (T := TX1) (N := 6) hx hb hts hinRX1 hown hK hP (24 + k_2) (kv_rt hk_2) rfl 1 (by decide) (hts (.fieldLink RX2 115 "LicenceKeeper$Right" "measure" "I") (by decide +kernel)) (fun _ h9 => h9) rfl dX2_upgrade_65 ?_
    refine lv_iload_n hx hb dX2_upgrade_68 rfl (lv_at hl 3 rfl) ?_
    refine lv_aload_n hx hb dX2_upgrade_69 rfl (lv_at hl 0 rfl) ?_
    refine va_get (D := D) (ci := 2) (v := .int (ql k_2)) (C := RX1) (T := TX1) (N := 6) hx hb hts hinRX1 hown hK hP (24 + k_2) (kv_rt hk_2) rfl 2 (by decide) (hts (.fieldLink RX2 92 "LicenceKeeper$Right" "lastCareDay" "I") (by decide +kernel)) (fun _ h9 => h9) rfl dX2_upgrade_70 ?_
    refine kv_calli (va_runV (As := [.int (qp k_2), .int (qm k_2), .int p1, .int (ql k_2)]) (rest := []) ⟨hx, hb, hml, hown, hts⟩ (c_X2_addRight l D ci ad aS kc kh ks fo kl kp dy mo n pa aE qp qm ql qv g_56 qe mt mv sw hv tk tn sc (qp k_2) (qm k_2) p1 (ql k_2) hE (kv_q9_n e hRz) H.size) (cwV 4 hts gX2_upgrade_X2_addRight rfl rfl rfl (by decide +kernel) ⟨Nat.le_of_ble_eq_true rfl, Nat.le_of_ble_eq_true rfl⟩) (kv_preVL hK hP hD hT2 hS hA (r := (RX2, TX2, 9)) (q0 := 0) (k := 3) rfl rfl rfl) rfl rfl hl.1 rfl (lv_room (Nat.le_of_ble_eq_true rfl)) dX2_upgrade_73 ⟨Nat.le_of_ble_eq_true rfl, Nat.le_of_ble_eq_true rfl⟩) hD hS hA (fun r_73 u_73 H locs hw_73 hP hD hS => ?_)
    obtain ⟨o0_73, o1_73, o2_73, o3_73, o4_73, o5_73, o6_73, o7_73, o8_73, o9_73⟩ := u_73
    have e := kv_q9_e e hw_73
    have hP : va_P D vwCl (kv_kw ci ad kc kh ks fo kl kp dy o0_73 o1_73 o8_73 o9_73 o2_73 o3_73 o4_73 o5_73 o6_73 o7_73 mt mv sw hv tk tn sc) H := hP
    have hD : va_D A (kv_kw ci ad kc kh ks fo kl kp dy o0_73 o1_73 o8_73 o9_73 o2_73 o3_73 o4_73 o5_73 o6_73 o7_73 mt mv sw hv tk tn sc) := hD
    rw [hQ]
    refine W.widen (k := 6) (n := 45) (Nat.le_of_ble_eq_true rfl) (Nat.le_of_ble_eq_true rfl) ?_
    refine vx_ret ?_
    exact W.iret (v := r_73) hx hb hr (fun t ht hW => ⟨⟨r_73, (o0_73, o1_73, o2_73, o3_73, o4_73, o5_73, o6_73, o7_73, o8_73, o9_73), rfl, e, ⟨by rw [ht]; exact hP, by rw [hAe]; exact hD⟩⟩, hS.F ht⟩) hS.2.2 dX2_upgrade_76
  · have e := e.trans (if_pos c_32)
    rw [hQ]
    obtain ⟨sa9, hs9⟩ := hT.2.2.1 (110, "the right is of the latest version") (by decide +kernel)
    have hg9 : ∀ w ∈ (vx_atS RX2 73 "java/lang/IllegalStateException" ["java/lang/RuntimeException", "java/lang/Exception"]).filter goodWord, w ∈ wsX2_upgrade := by decide +kernel
    refine vx_throwS hx hb hl9 (own := RX2) (cls := "java/lang/IllegalStateException") (text := "the right is of the latest version") (names := ["java/lang/RuntimeException", "java/lang/Exception"]) (ik := 69) (is := 110) (ic := 73) (A := A) hown (by decide +kernel) (by decide +kernel) (hts (.classLink RX2 69 "java/lang/IllegalStateException") (by decide +kernel)) (hts (.initialized "java/lang/IllegalStateException") (by decide +kernel)) hs9 (vx_hat (B := [.castable "java/lang/IllegalStateException" "java/lang/IllegalStateException", .declares (Bundle.initS "java/lang/RuntimeException"), .declares (Bundle.initS "java/lang/Exception"), .declares (Bundle.initS Bundle.tN)]) (fun w hw => hts w (hg9 w hw)) (by decide +kernel) (vx_c (va_Nw.use rfl (hT.2.2.2.1 3)) (vx_c (va_Nw.use rfl (hT.2.2.2.2 "java/lang/RuntimeException" (by decide +kernel))) (vx_c (va_Nw.use rfl (hT.2.2.2.2 "java/lang/Exception" (by decide +kernel))) (vx_c (va_Nw.use rfl (hT.2.2.2.2 Bundle.tN (by decide +kernel))) vx_n))))) (by decide +kernel) hT.1 hT.2.1 hS (hl.1.trans hml.symm) dX2_upgrade_35 dX2_upgrade_38 dX2_upgrade_39 dX2_upgrade_41 dX2_upgrade_44 (fun x h => (hex x h).elim) (Nat.le_of_ble_eq_true rfl) (Nat.le_of_ble_eq_true rfl) (Nat.le_of_ble_eq_true rfl) (Nat.le_of_ble_eq_true rfl) hlocks (fun t hvm h1 h2 => ?_) hS.2.2 (Nat.le_of_ble_eq_true rfl) (Nat.le_of_ble_eq_true rfl)
    obtain ⟨⟨a1, a2⟩, a3⟩ := kv_thrown hP hD hS h1 h2
    exact ⟨3, e, ⟨by decide +kernel, a1, by rw [hAe]; exact a2⟩, a3⟩
