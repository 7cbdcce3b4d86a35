def pf_X3_thrown (th : Int32)  : Option (Int32) :=
  some (th)
abbrev rmX3_thrown : Room := { frames := 0, cells := 0, slots := 0, locals := 0 }
set_option maxHeartbeats 4000000 in
set_option maxRecDepth 100000 in
theorem c_X3_thrown (l : Launch) (D : va_G) (ci md : Nat → Nat) (th : Int32) (nw : Int32) (co : Nat → Int32) (ho : Nat → Int32) (ve : Nat → Int32) (la : Nat → Int32) (pr : Nat → Int32) (rg : Int32) (rp : Nat → Int32) (rm : Nat → Int32) (rc : Nat → Int32) (re : Nat → Int32) (ro : Nat → Int32) (rl : Nat → Int32) (cn : Nat → Int32) (tn : Nat → Int32) (tk : Nat → Int32) (sp : Nat → Int32) (ba : Int32)   (hRn : pf_X3_thrown th ≠ none) (sz : Nat) : Met l yX3_thrown wsX3_thrown rmX3_thrown (va_Pc [.ref (md 0)] (kv_pre D ci (kv_mw ci md th nw co ho ve la pr rg rp rm rc re ro rl cn tn tk sp ba) sz)) (va_Qi (fun (r : Int32) (u : Unit) => pf_X3_thrown th = some (r)) (fun u t => kv_post D (kv_mw ci md th nw co ho ve la pr rg rp rm rc re ro rl cn tn tk sp ba) sz (kv_mw ci md th nw co ho ve la pr rg rp rm rc re ro rl cn tn tk sp ba) t) (va_A (kv_mw ci md th nw co ho ve la pr rg rp rm rc re ro rl cn tn tk sp ba) sz)) 0 0 (va_A (kv_mw ci md th nw co ho ve la pr rg rp rm rc re ro rl cn tn tk sp ba) sz) := by
  refine Met.ofW (cc := cX3_thrown) (maxL := 1) (ret := (some .int)) (by decide) rfl ?_
  intro p en s m args below meth c s₁ B hml hv
  obtain ⟨hv0, hsz, hP, hK, hD0⟩ := hv
  have hx := B.exec
  have hb := B.bytes
  have hr := B.returns
  have hts := atoms_spec (ws := wsX3_thrown) B.pre
  have hown : s.vm.findClass RX3 = some m.cls := findClass_of_methodNamed B.named
  have hlocks := B.notSynchronized
  subst hsz
  have hD := hD0.self (sz := s.heap.size)
  generalize hAe : va_A (kv_mw ci md th nw co ho ve la pr rg rp rm rc re ro rl cn tn tk sp ba) s.heap.size = A at hD ⊢
  have hA : ∀ q : Nat, s.heap.size ≤ q → A q := fun q h => by rw [← hAe]; exact Or.inr h
  have hS : va_S A s.heap s.heap [] := va_S.rf
  have hP : va_P D vwCl (kv_mw ci md th nw co ho ve la pr rg rp rm rc re ro rl cn tn tk sp ba) s.heap := hP
  have hinRX3 : ∀ w ∈ u_ws RX3 TX3 19, w ∈ wsX3_thrown := by decide +kernel
  generalize hRd : pf_X3_thrown th = Rz at hRn
  have hRz := hRn
  refine kv_Q (fun Q hQ => ?_)
  refine W.eq (show entryFrame m args 1 = _ from by rw [hv0, lg_entry_eq]) ?_
  have hl := lv_entry ([.ref (md 0)]) (n := 1) (Nat.le_of_ble_eq_true rfl)
  generalize (lg_sl ([.ref (md 0)]) ++ List.replicate (1 - (lg_sl ([.ref (md 0)])).length) Slot.unset).toArray = ls at hl ⊢
  have hl : lv_has ls 1 [(0, .ref (md 0))] := hl
  have e : Rz = pf_X3_thrown th := hRd.symm
  rw [pf_X3_thrown] at e
  refine lv_aload_n hx hb dX3_thrown_0 rfl (lv_at hl 0 rfl) ?_
  refine va_get (D := D) (ci := 4) (v := .int th) (C := RX3) (T := TX3) (N := 19) hx hb hts hinRX3 hown hK hP 0 rfl rfl 0 (by decide) (hts (.fieldLink RX3 56 "LicenceKeeperModel" "thrown" "I") (by decide +kernel)) (fun _ h9 => h9) rfl dX3_thrown_1 ?_
  rw [hQ]
  exact W.iret (v := th) hx hb hr (fun t ht hW => ⟨⟨th, (), rfl, e, ⟨by rw [ht]; exact hP, by rw [hAe]; exact hD⟩⟩, hS.F ht⟩) hS.2.2 dX3_thrown_4

def pf_X3_fails (p0 : Int32) (th : Int32) : Option (Int32 × Int32) :=
  some (0, p0)
abbrev rmX3_fails : Room := { frames := 0, cells := 0, slots := 0, locals := 0 }
set_option maxHeartbeats 4000000 in
set_option maxRecDepth 100000 in
theorem c_X3_fails (l : Launch) (D : va_G) (ci md : Nat → Nat) (th : Int32) (nw : Int32) (co : Nat → Int32) (ho : Nat → Int32) (ve : Nat → Int32) (la : Nat → Int32) (pr : Nat → Int32) (rg : Int32) (rp : Nat → Int32) (rm : Nat → Int32) (rc : Nat → Int32) (re : Nat → Int32) (ro : Nat → Int32) (rl : Nat → Int32) (cn : Nat → Int32) (tn : Nat → Int32) (tk : Nat → Int32) (sp : Nat → Int32) (ba : Int32) (p0 : Int32)  (hRn : pf_X3_fails p0 th ≠ none) (sz : Nat) : Met l yX3_fails wsX3_fails rmX3_fails (va_Pc [.ref (md 0), .int p0] (kv_pre D ci (kv_mw ci md th nw co ho ve la pr rg rp rm rc re ro rl cn tn tk sp ba) sz)) (va_Qi (fun (r : Int32) (u : Int32) => pf_X3_fails p0 th = some (r, u)) (fun u t => kv_post D (kv_mw ci md th nw co ho ve la pr rg rp rm rc re ro rl cn tn tk sp ba) sz (kv_mw ci md u nw co ho ve la pr rg rp rm rc re ro rl cn tn tk sp ba) t) (va_A (kv_mw ci md th nw co ho ve la pr rg rp rm rc re ro rl cn tn tk sp ba) sz)) 0 0 (va_A (kv_mw ci md th nw co ho ve la pr rg rp rm rc re ro rl cn tn tk sp ba) sz) := by
  refine Met.ofW (cc := cX3_fails) (maxL := 2) (ret := (some .int)) (by decide) rfl ?_
  intro p en s m args below meth c s₁ B hml hv
  obtain ⟨hv0, hsz, hP, hK, hD0⟩ := hv
  have hx := B.exec
  have hb := B.bytes
  have hr := B.returns
  have hts := atoms_spec (ws := wsX3_fails) B.pre
  have hown : s.vm.findClass RX3 = some m.cls := findClass_of_methodNamed B.named
  have hlocks := B.notSynchronized
  subst hsz
  have hD := hD0.self (sz := s.heap.size)
  generalize hAe : va_A (kv_mw ci md th nw co ho ve la pr rg rp rm rc re ro rl cn tn tk sp ba) s.heap.size = A at hD ⊢
  have hA : ∀ q : Nat, s.heap.size ≤ q → A q := fun q h => by rw [← hAe]; exact Or.inr h
  have hS : va_S A s.heap s.heap [] := va_S.rf
  have hP : va_P D vwCl (kv_mw ci md th nw co ho ve la pr rg rp rm rc re ro rl cn tn tk sp ba) s.heap := hP
  have hinRX3 : ∀ w ∈ u_ws RX3 TX3 19, w ∈ wsX3_fails := by decide +kernel
  generalize hRd : pf_X3_fails p0 th = Rz at hRn
  have hRz := hRn
  refine kv_Q (fun Q hQ => ?_)
  refine W.eq (show entryFrame m args 2 = _ from by rw [hv0, lg_entry_eq]) ?_
  have hl := lv_entry ([.ref (md 0), .int p0]) (n := 2) (Nat.le_of_ble_eq_true rfl)
  generalize (lg_sl ([.ref (md 0), .int p0]) ++ List.replicate (2 - (lg_sl ([.ref (md 0), .int p0])).length) Slot.unset).toArray = ls at hl ⊢
  have hl : lv_has ls 2 [(0, .ref (md 0)), (1, .int p0)] := hl
  have e : Rz = pf_X3_fails p0 th := hRd.symm
  rw [pf_X3_fails] at e
  refine lv_aload_n hx hb dX3_fails_0 rfl (lv_at hl 0 rfl) ?_
  refine lv_iload_n hx hb dX3_fails_1 rfl (lv_at hl 1 rfl) ?_
  refine va_put (D := D) (ci := 4) (v := .int p0) (ty := .int) (C := RX3) (T := TX3) (N := 19) hx hb hts hinRX3 tyX3 tyX3_ok nmX3 hown hK hP hD hS 0 rfl rfl 0 (by decide) (hts (.fieldLink RX3 56 "LicenceKeeperModel" "thrown" "I") (by decide +kernel)) (fun _ h9 => h9) rfl (by decide +kernel) rfl rfl (Nat.le_of_ble_eq_true rfl) dX3_fails_2 (fun H locs hP hD hS => ?_)
  have hP : va_P D vwCl (kv_mw ci md p0 nw co ho ve la pr rg rp rm rc re ro rl cn tn tk sp ba) H := hP
  have hD : va_D A (kv_mw ci md p0 nw co ho ve la pr rg rp rm rc re ro rl cn tn tk sp ba) := hD
  refine lv_iconst (v := 0) hx hb dX3_fails_5 (by decide) ?_
  rw [hQ]
  exact W.iret (v := 0) hx hb hr (fun t ht hW => ⟨⟨0, (p0), rfl, e, ⟨by rw [ht]; exact hP, by rw [hAe]; exact hD⟩⟩, hS.F ht⟩) hS.2.2 dX3_fails_6

def pf_X3_in (p0 : Int32) (p1 : Int32) (p2 : Int32)  : Option (Int32) :=
  if p0 < p1 then some (0) else if p2 < p0 then some (0) else some (1)
abbrev rmX3_in : Room := { frames := 0, cells := 0, slots := 0, locals := 0 }
set_option maxHeartbeats 4000000 in
set_option maxRecDepth 100000 in
theorem c_X3_in (l : Launch) (D : va_G) (ci md : Nat → Nat) (th : Int32) (nw : Int32) (co : Nat → Int32) (ho : Nat → Int32) (ve : Nat → Int32) (la : Nat → Int32) (pr : Nat → Int32) (rg : Int32) (rp : Nat → Int32) (rm : Nat → Int32) (rc : Nat → Int32) (re : Nat → Int32) (ro : Nat → Int32) (rl : Nat → Int32) (cn : Nat → Int32) (tn : Nat → Int32) (tk : Nat → Int32) (sp : Nat → Int32) (ba : Int32) (p0 : Int32) (p1 : Int32) (p2 : Int32)  (hRn : pf_X3_in p0 p1 p2 ≠ none) (sz : Nat) : Met l yX3_in wsX3_in rmX3_in (va_Pc [.int p0, .int p1, .int p2] (kv_pre D ci (kv_mw ci md th nw co ho ve la pr rg rp rm rc re ro rl cn tn tk sp ba) sz)) (va_Qi (fun (r : Int32) (u : Unit) => pf_X3_in p0 p1 p2 = some (r)) (fun u t => kv_post D (kv_mw ci md th nw co ho ve la pr rg rp rm rc re ro rl cn tn tk sp ba) sz (kv_mw ci md th nw co ho ve la pr rg rp rm rc re ro rl cn tn tk sp ba) t) (va_A (kv_mw ci md th nw co ho ve la pr rg rp rm rc re ro rl cn tn tk sp ba) sz)) 0 0 (va_A (kv_mw ci md th nw co ho ve la pr rg rp rm rc re ro rl cn tn tk sp ba) sz) := by
  refine Met.ofW (cc := cX3_in) (maxL := 3) (ret := (some .boolean)) (by decide) rfl ?_
  intro p en s m args below meth c s₁ B hml hv
  obtain ⟨hv0, hsz, hP, hK, hD0⟩ := hv
  have hx := B.exec
  have hb := B.bytes
  have hr := B.returns
  have hts := atoms_spec (ws := wsX3_in) B.pre
  have hown : s.vm.findClass RX3 = some m.cls := findClass_of_methodNamed B.named
  have hlocks := B.notSynchronized
  subst hsz
  have hD := hD0.self (sz := s.heap.size)
  generalize hAe : va_A (kv_mw ci md th nw co ho ve la pr rg rp rm rc re ro rl cn tn tk sp ba) s.heap.size = A at hD ⊢
  have hA : ∀ q : Nat, s.heap.size ≤ q → A q := fun q h => by rw [← hAe]; exact Or.inr h
  have hS : va_S A s.heap s.heap [] := va_S.rf
  have hP : va_P D vwCl (kv_mw ci md th nw co ho ve la pr rg rp rm rc re ro rl cn tn tk sp ba) s.heap := hP
  generalize hRd : pf_X3_in p0 p1 p2 = Rz at hRn
  have hRz := hRn
  refine kv_Q (fun Q hQ => ?_)
  refine W.eq (show entryFrame m args 3 = _ from by rw [hv0, lg_entry_eq]) ?_
  have hl := lv_entry ([.int p0, .int p1, .int p2]) (n := 3) (Nat.le_of_ble_eq_true rfl)
  generalize (lg_sl ([.int p0, .int p1, .int p2]) ++ List.replicate (3 - (lg_sl ([.int p0, .int p1, .int p2])).length) Slot.unset).toArray = ls at hl ⊢
  have hl : lv_has ls 3 [(0, .int p0), (1, .int p1), (2, .int p2)] := hl
  have e : Rz = pf_X3_in p0 p1 p2 := hRd.symm
  rw [pf_X3_in] at e
  refine lv_iload_n hx hb dX3_in_0 rfl (lv_at hl 0 rfl) ?_
  refine lv_iload_n hx hb dX3_in_1 rfl (lv_at hl 1 rfl) ?_
  refine lv_icmp_lt (tgt := 14) hx hb dX3_in_2 (by decide) (fun c_2 => ?_) (fun c_2 => ?_)
  · have e := e.trans (if_pos c_2)
    refine lv_iconst (v := 0) hx hb dX3_in_14 (by decide) ?_
    rw [hQ]
    exact W.zret (v := 0) hx hb hr (by decide +kernel) (fun t ht hW => ⟨⟨0, (), rfl, e, ⟨by rw [ht]; exact hP, by rw [hAe]; exact hD⟩⟩, hS.F ht⟩) hS.2.2 dX3_in_15
  · have e := e.trans (if_neg c_2)
    refine lv_iload_n hx hb dX3_in_5 rfl (lv_at hl 0 rfl) ?_
    refine lv_iload_n hx hb dX3_in_6 rfl (lv_at hl 2 rfl) ?_
    refine lv_icmp_gt (tgt := 14) hx hb dX3_in_7 (by decide) (fun c_7 => ?_) (fun c_7 => ?_)
    · have e := e.trans (if_pos c_7)
      refine lv_iconst (v := 0) hx hb dX3_in_14 (by decide) ?_
      rw [hQ]
      exact W.zret (v := 0) hx hb hr (by decide +kernel) (fun t ht hW => ⟨⟨0, (), rfl, e, ⟨by rw [ht]; exact hP, by rw [hAe]; exact hD⟩⟩, hS.F ht⟩) hS.2.2 dX3_in_15
    · have e := e.trans (if_neg c_7)
      refine lv_iconst (v := 1) hx hb dX3_in_10 (by decide) ?_
      refine lv_goto (tgt := 15) hx hb dX3_in_11 (by decide) ?_
      rw [hQ]
      exact W.zret (v := 1) hx hb hr (by decide +kernel) (fun t ht hW => ⟨⟨1, (), rfl, e, ⟨by rw [ht]; exact hP, by rw [hAe]; exact hD⟩⟩, hS.F ht⟩) hS.2.2 dX3_in_15

def pf_X3_isMachine (p0 : Int32)  : Option (Int32) :=
  kv_q1 (pf_X3_in p0 0 7) (fun r_4 => kv_B r_4 (some (r_4)))
abbrev rmX3_isMachine : Room := { frames := 1, cells := 0, slots := 0, locals := 22 }
set_option maxHeartbeats 4000000 in
set_option maxRecDepth 100000 in
theorem c_X3_isMachine (l : Launch) (D : va_G) (ci md : Nat → Nat) (th : Int32) (nw : Int32) (co : Nat → Int32) (ho : Nat → Int32) (ve : Nat → Int32) (la : Nat → Int32) (pr : Nat → Int32) (rg : Int32) (rp : Nat → Int32) (rm : Nat → Int32) (rc : Nat → Int32) (re : Nat → Int32) (ro : Nat → Int32) (rl : Nat → Int32) (cn : Nat → Int32) (tn : Nat → Int32) (tk : Nat → Int32) (sp : Nat → Int32) (ba : Int32) (p0 : Int32)  (hRn : pf_X3_isMachine p0 ≠ none) (sz : Nat) : Met l yX3_isMachine wsX3_isMachine rmX3_isMachine (va_Pc [.int p0] (kv_pre D ci (kv_mw ci md th nw co ho ve la pr rg rp rm rc re ro rl cn tn tk sp ba) sz)) (va_Qi (fun (r : Int32) (u : Unit) => pf_X3_isMachine p0 = some (r)) (fun u t => kv_post D (kv_mw ci md th nw co ho ve la pr rg rp rm rc re ro rl cn tn tk sp ba) sz (kv_mw ci md th nw co ho ve la pr rg rp rm rc re ro rl cn tn tk sp ba) t) (va_A (kv_mw ci md th nw co ho ve la pr rg rp rm rc re ro rl cn tn tk sp ba) sz)) 0 0 (va_A (kv_mw ci md th nw co ho ve la pr rg rp rm rc re ro rl cn tn tk sp ba) sz) := by
  refine Met.ofW (cc := cX3_isMachine) (maxL := 1) (ret := (some .boolean)) (by decide) rfl ?_
  intro p en s m args below meth c s₁ B hml hv
  obtain ⟨hv0, hsz, hP, hK, hD0⟩ := hv
  have hx := B.exec
  have hb := B.bytes
  have hr := B.returns
  have hts := atoms_spec (ws := wsX3_isMachine) B.pre
  have hown : s.vm.findClass RX3 = some m.cls := findClass_of_methodNamed B.named
  have hlocks := B.notSynchronized
  subst hsz
  have hD := hD0.self (sz := s.heap.size)
  generalize hAe : va_A (kv_mw ci md th nw co ho ve la pr rg rp rm rc re ro rl cn tn tk sp ba) s.heap.size = A at hD ⊢
  have hA : ∀ q : Nat, s.heap.size ≤ q → A q := fun q h => by rw [← hAe]; exact Or.inr h
  have hS : va_S A s.heap s.heap [] := va_S.rf
  have hP : va_P D vwCl (kv_mw ci md th nw co ho ve la pr rg rp rm rc re ro rl cn tn tk sp ba) s.heap := hP
  generalize hRd : pf_X3_isMachine p0 = Rz at hRn
  have hRz := hRn
  refine kv_Q (fun Q hQ => ?_)
  refine W.eq (show entryFrame m args 1 = _ from by rw [hv0, lg_entry_eq]) ?_
  have hl := lv_entry ([.int p0]) (n := 1) (Nat.le_of_ble_eq_true rfl)
  generalize (lg_sl ([.int p0]) ++ List.replicate (1 - (lg_sl ([.int p0])).length) Slot.unset).toArray = ls at hl ⊢
  have hl : lv_has ls 1 [(0, .int p0)] := hl
  have e : Rz = pf_X3_isMachine p0 := hRd.symm
  rw [pf_X3_isMachine] at e
  refine lv_iload_n hx hb dX3_isMachine_0 rfl (lv_at hl 0 rfl) ?_
  refine lv_iconst (v := 0) hx hb dX3_isMachine_1 (by decide) ?_
  refine lv_bipush (v := 7) hx hb dX3_isMachine_2 (by decide) ?_
  refine kv_calli (va_runS (As := [.int p0, .int 0, .int 7]) (rest := []) ⟨hx, hb, hml, hown, hts⟩ (c_X3_in l D ci md th nw co ho ve la pr rg rp rm rc re ro rl cn tn tk sp ba p0 0 7 (kv_q1_n e hRz) s.heap.size) (va_cwS 3 hts gX3_isMachine_X3_in rfl rfl rfl (by decide +kernel) ⟨Nat.le_of_ble_eq_true rfl, Nat.le_of_ble_eq_true rfl⟩) (kv_preS hK hP hD) rfl rfl hl.1 rfl (lv_room (Nat.le_of_ble_eq_true rfl)) dX3_isMachine_4 ⟨Nat.le_of_ble_eq_true rfl, Nat.le_of_ble_eq_true rfl⟩) hD hS hA (fun r_4 u_4 H locs hw_4 hP hD hS => ?_)
  have e := kv_q1_e e hw_4
  obtain ⟨hn9, e⟩ := kv_B_e e hRz
  rw [hQ]
  exact W.zret (v := r_4) hx hb hr hn9 (fun t ht hW => ⟨⟨r_4, (), rfl, e, ⟨by rw [ht]; exact hP, by rw [hAe]; exact hD⟩⟩, hS.F ht⟩) hS.2.2 dX3_isMachine_7

def pf_X3_isProduct (p0 : Int32)  : Option (Int32) :=
  kv_q1 (pf_X3_in p0 0 3) (fun r_3 => kv_B r_3 (some (r_3)))
abbrev rmX3_isProduct : Room := { frames := 1, cells := 0, slots := 0, locals := 22 }
set_option maxHeartbeats 4000000 in
set_option maxRecDepth 100000 in
theorem c_X3_isProduct (l : Launch) (D : va_G) (ci md : Nat → Nat) (th : Int32) (nw : Int32) (co : Nat → Int32) (ho : Nat → Int32) (ve : Nat → Int32) (la : Nat → Int32) (pr : Nat → Int32) (rg : Int32) (rp : Nat → Int32) (rm : Nat → Int32) (rc : Nat → Int32) (re : Nat → Int32) (ro : Nat → Int32) (rl : Nat → Int32) (cn : Nat → Int32) (tn : Nat → Int32) (tk : Nat → Int32) (sp : Nat → Int32) (ba : Int32) (p0 : Int32)  (hRn : pf_X3_isProduct p0 ≠ none) (sz : Nat) : Met l yX3_isProduct wsX3_isProduct rmX3_isProduct (va_Pc [.int p0] (kv_pre D ci (kv_mw ci md th nw co ho ve la pr rg rp rm rc re ro rl cn tn tk sp ba) sz)) (va_Qi (fun (r : Int32) (u : Unit) => pf_X3_isProduct p0 = some (r)) (fun u t => kv_post D (kv_mw ci md th nw co ho ve la pr rg rp rm rc re ro rl cn tn tk sp ba) sz (kv_mw ci md th nw co ho ve la pr rg rp rm rc re ro rl cn tn tk sp ba) t) (va_A (kv_mw ci md th nw co ho ve la pr rg rp rm rc re ro rl cn tn tk sp ba) sz)) 0 0 (va_A (kv_mw ci md th nw co ho ve la pr rg rp rm rc re ro rl cn tn tk sp ba) sz) := by
  refine Met.ofW (cc := cX3_isProduct) (maxL := 1) (ret := (some .boolean)) (by decide) rfl ?_
  intro p en s m args below meth c s₁ B hml hv
  obtain ⟨hv0, hsz, hP, hK, hD0⟩ := hv
  have hx := B.exec
  have hb := B.bytes
  have hr := B.returns
  have hts := atoms_spec (ws := wsX3_isProduct) B.pre
  have hown : s.vm.findClass RX3 = some m.cls := findClass_of_methodNamed B.named
  have hlocks := B.notSynchronized
  subst hsz
  have hD := hD0.self (sz := s.heap.size)
  generalize hAe : va_A (kv_mw ci md th nw co ho ve la pr rg rp rm rc re ro rl cn tn tk sp ba) s.heap.size = A at hD ⊢
  have hA : ∀ q : Nat, s.heap.size ≤ q → A q := fun q h => by rw [← hAe]; exact Or.inr h
  have hS : va_S A s.heap s.heap [] := va_S.rf
  have hP : va_P D vwCl (kv_mw ci md th nw co ho ve la pr rg rp rm rc re ro rl cn tn tk sp ba) s.heap := hP
  generalize hRd : pf_X3_isProduct p0 = Rz at hRn
  have hRz := hRn
  refine kv_Q (fun Q hQ => ?_)
  refine W.eq (show entryFrame m args 1 = _ from by rw [hv0, lg_entry_eq]) ?_
  have hl := lv_entry ([.int p0]) (n := 1) (Nat.le_of_ble_eq_true rfl)
  generalize (lg_sl ([.int p0]) ++ List.replicate (1 - (lg_sl ([.int p0])).length) Slot.unset).toArray = ls at hl ⊢
  have hl : lv_has ls 1 [(0, .int p0)] := hl
  have e : Rz = pf_X3_isProduct p0 := hRd.symm
  rw [pf_X3_isProduct] at e
  refine lv_iload_n hx hb dX3_isProduct_0 rfl (lv_at hl 0 rfl) ?_
  refine lv_iconst (v := 0) hx hb dX3_isProduct_1 (by decide) ?_
  refine lv_iconst (v := 3) hx hb dX3_isProduct_2 (by decide) ?_
  refine kv_calli (va_runS (As := [.int p0, .int 0, .int 3]) (rest := []) ⟨hx, hb, hml, hown, hts⟩ (c_X3_in l D ci md th nw co ho ve la pr rg rp rm rc re ro rl cn tn tk sp ba p0 0 3 (kv_q1_n e hRz) s.heap.size) (va_cwS 3 hts gX3_isProduct_X3_in rfl rfl rfl (by decide +kernel) ⟨Nat.le_of_ble_eq_true rfl, Nat.le_of_ble_eq_true rfl⟩) (kv_preS hK hP hD) rfl rfl hl.1 rfl (lv_room (Nat.le_of_ble_eq_true rfl)) dX3_isProduct_3 ⟨Nat.le_of_ble_eq_true rfl, Nat.le_of_ble_eq_true rfl⟩) hD hS hA (fun r_3 u_3 H locs hw_3 hP hD hS => ?_)
  have e := kv_q1_e e hw_3
  obtain ⟨hn9, e⟩ := kv_B_e e hRz
  rw [hQ]
  exact W.zret (v := r_3) hx hb hr hn9 (fun t ht hW => ⟨⟨r_3, (), rfl, e, ⟨by rw [ht]; exact hP, by rw [hAe]; exact hD⟩⟩, hS.F ht⟩) hS.2.2 dX3_isProduct_6

def pf_X3_isRight (rg : Int32) (p0 : Int32)  : Option (Int32) :=
  kv_q1 (pf_X3_in p0 0 (rg - 1)) (fun r_8 => kv_B r_8 (some (r_8)))
abbrev rmX3_isRight : Room := { frames := 1, cells := 0, slots := 0, locals := 22 }
set_option maxHeartbeats 4000000 in
set_option maxRecDepth 100000 in
theorem c_X3_isRight (l : Launch) (D : va_G) (ci md : Nat → Nat) (th : Int32) (nw : Int32) (co : Nat → Int32) (ho : Nat → Int32) (ve : Nat → Int32) (la : Nat → Int32) (pr : Nat → Int32) (rg : Int32) (rp : Nat → Int32) (rm : Nat → Int32) (rc : Nat → Int32) (re : Nat → Int32) (ro : Nat → Int32) (rl : Nat → Int32) (cn : Nat → Int32) (tn : Nat → Int32) (tk : Nat → Int32) (sp : Nat → Int32) (ba : Int32) (p0 : Int32)  (hRn : pf_X3_isRight rg p0 ≠ none) (sz : Nat) : Met l yX3_isRight wsX3_isRight rmX3_isRight (va_Pc [.ref (md 0), .int p0] (kv_pre D ci (kv_mw ci md th nw co ho ve la pr rg rp rm rc re ro rl cn tn tk sp ba) sz)) (va_Qi (fun (r : Int32) (u : Unit) => pf_X3_isRight rg p0 = some (r)) (fun u t => kv_post D (kv_mw ci md th nw co ho ve la pr rg rp rm rc re ro rl cn tn tk sp ba) sz (kv_mw ci md th nw co ho ve la pr rg rp rm rc re ro rl cn tn tk sp ba) t) (va_A (kv_mw ci md th nw co ho ve la pr rg rp rm rc re ro rl cn tn tk sp ba) sz)) 0 0 (va_A (kv_mw ci md th nw co ho ve la pr rg rp rm rc re ro rl cn tn tk sp ba) sz) := by
  refine Met.ofW (cc := cX3_isRight) (maxL := 2) (ret := (some .boolean)) (by decide) rfl ?_
  intro p en s m args below meth c s₁ B hml hv
  obtain ⟨hv0, hsz, hP, hK, hD0⟩ := hv
  have hx := B.exec
  have hb := B.bytes
  have hr := B.returns
  have hts := atoms_spec (ws := wsX3_isRight) B.pre
  have hown : s.vm.findClass RX3 = some m.cls := findClass_of_methodNamed B.named
  have hlocks := B.notSynchronized
  subst hsz
  have hD := hD0.self (sz := s.heap.size)
  generalize hAe : va_A (kv_mw ci md th nw co ho ve la pr rg rp rm rc re ro rl cn tn tk sp ba) s.heap.size = A at hD ⊢
  have hA : ∀ q : Nat, s.heap.size ≤ q → A q := fun q h => by rw [← hAe]; exact Or.inr h
  have hS : va_S A s.heap s.heap [] := va_S.rf
  have hP : va_P D vwCl (kv_mw ci md th nw co ho ve la pr rg rp rm rc re ro rl cn tn tk sp ba) s.heap := hP
  have hinRX3 : ∀ w ∈ u_ws RX3 TX3 19, w ∈ wsX3_isRight := by decide +kernel
  generalize hRd : pf_X3_isRight rg p0 = Rz at hRn
  have hRz := hRn
  refine kv_Q (fun Q hQ => ?_)
  refine W.eq (show entryFrame m args 2 = _ from by rw [hv0, lg_entry_eq]) ?_
  have hl := lv_entry ([.ref (md 0), .int p0]) (n := 2) (Nat.le_of_ble_eq_true rfl)
  generalize (lg_sl ([.ref (md 0), .int p0]) ++ List.replicate (2 - (lg_sl ([.ref (md 0), .int p0])).length) Slot.unset).toArray = ls at hl ⊢
  have hl : lv_has ls 2 [(0, .ref (md 0)), (1, .int p0)] := hl
  have e : Rz = pf_X3_isRight rg p0 := hRd.symm
  rw [pf_X3_isRight] at e
  refine lv_iload_n hx hb dX3_isRight_0 rfl (lv_at hl 1 rfl) ?_
  refine lv_iconst (v := 0) hx hb dX3_isRight_1 (by decide) ?_
  refine lv_aload_n hx hb dX3_isRight_2 rfl (lv_at hl 0 rfl) ?_
  refine va_get (D := D) (ci := 4) (v := .int rg) (C := RX3) (T := TX3) (N := 19) hx hb hts hinRX3 hown hK hP 0 rfl rfl 7 (by decide) (hts (.fieldLink RX3 64 "LicenceKeeperModel" "rights" "I") (by decide +kernel)) (fun _ h9 => h9) rfl dX3_isRight_3 ?_
  refine lv_iconst (v := 1) hx hb dX3_isRight_6 (by decide) ?_
  refine lv_isub hx hb dX3_isRight_7 ?_
  refine kv_calli (va_runS (As := [.int p0, .int 0, .int (rg - 1)]) (rest := []) ⟨hx, hb, hml, hown, hts⟩ (c_X3_in l D ci md th nw co ho ve la pr rg rp rm rc re ro rl cn tn tk sp ba p0 0 (rg - 1) (kv_q1_n e hRz) s.heap.size) (va_cwS 3 hts gX3_isRight_X3_in rfl rfl rfl (by decide +kernel) ⟨Nat.le_of_ble_eq_true rfl, Nat.le_of_ble_eq_true rfl⟩) (kv_preS hK hP hD) rfl rfl hl.1 rfl (lv_room (Nat.le_of_ble_eq_true rfl)) dX3_isRight_8 ⟨Nat.le_of_ble_eq_true rfl, Nat.le_of_ble_eq_true rfl⟩) hD hS hA (fun r_8 u_8 H locs hw_8 hP hD hS => ?_)
  have e := kv_q1_e e hw_8
  obtain ⟨hn9, e⟩ := kv_B_e e hRz
  rw [hQ]
  exact W.zret (v := r_8) hx hb hr hn9 (fun t ht hW => ⟨⟨r_8, (), rfl, e, ⟨by rw [ht]; exact hP, by rw [hAe]; exact hD⟩⟩, hS.F ht⟩) hS.2.2 dX3_isRight_11

def pf_X3_setCores (p0 : Int32) (p1 : Int32) (th : Int32) (co : Nat → Int32) : Option (Int32 × Int32 × (Nat → Int32)) :=
  kv_q1 (pf_X3_isMachine p0) (fun r_6 => if r_6 = 0 then kv_q2 (pf_X3_fails 1 0) (fun r_14 u_14 => some (r_14, u_14, co)) else kv_q1 (pf_X3_in p1 1 64) (fun r_22 => if r_22 = 0 then kv_q2 (pf_X3_fails 2 0) (fun r_30 u_30 => some (r_30, u_30, co)) else kv_G p0 8 (kv_T (co p0.toNatClampNeg) (fun y_39 => kv_G p0 8 (kv_T (upd co p0.toNatClampNeg p1) (fun g_47 => some (y_39, 0, g_47)))))))
abbrev rmX3_setCores : Room := { frames := 2, cells := 0, slots := 0, locals := 42 }
set_option maxHeartbeats 4000000 in
set_option maxRecDepth 100000 in
theorem c_X3_setCores (l : Launch) (D : va_G) (ci md : Nat → Nat) (th : Int32) (nw : Int32) (co : Nat → Int32) (ho : Nat → Int32) (ve : Nat → Int32) (la : Nat → Int32) (pr : Nat → Int32) (rg : Int32) (rp : Nat → Int32) (rm : Nat → Int32) (rc : Nat → Int32) (re : Nat → Int32) (ro : Nat → Int32) (rl : Nat → Int32) (cn : Nat → Int32) (tn : Nat → Int32) (tk : Nat → Int32) (sp : Nat → Int32) (ba : Int32) (p0 : Int32) (p1 : Int32)  (hRn : pf_X3_setCores p0 p1 th co ≠ none) (sz : Nat) : Met l yX3_setCores wsX3_setCores rmX3_setCores (va_Pc [.ref (md 0), .int p0, .int p1] (kv_pre D ci (kv_mw ci md th nw co ho ve la pr rg rp rm rc re ro rl cn tn tk sp ba) sz)) (va_Qi (fun (r : Int32) (u : Int32 × (Nat → Int32)) => pf_X3_setCores p0 p1 th co = some (r, u)) (fun u t => kv_post D (kv_mw ci md th nw co ho ve la pr rg rp rm rc re ro rl cn tn tk sp ba) sz (kv_mw ci md u.1 nw u.2 ho ve la pr rg rp rm rc re ro rl cn tn tk sp ba) t) (va_A (kv_mw ci md th nw co ho ve la pr rg rp rm rc re ro rl cn tn tk sp ba) sz)) 0 0 (va_A (kv_mw ci md th nw co ho ve la pr rg rp rm rc re ro rl cn tn tk sp ba) sz) := by
  refine Met.ofW (cc := cX3_setCores) (maxL := 4) (ret := (some .int)) (by decide) rfl ?_
  intro p en s m args below meth c s₁ B hml hv
  obtain ⟨hv0, hsz, hP, hK, hD0⟩ := hv
  have hx := B.exec
  have hb := B.bytes
  have hr := B.returns
  have hts := atoms_spec (ws := wsX3_setCores) B.pre
  have hown : s.vm.findClass RX3 = some m.cls := findClass_of_methodNamed B.named
  have hlocks := B.notSynchronized
  subst hsz
  have hD := hD0.self (sz := s.heap.size)
  generalize hAe : va_A (kv_mw ci md th nw co ho ve la pr rg rp rm rc re ro rl cn tn tk sp ba) s.heap.size = A at hD ⊢
  have hA : ∀ q : Nat, s.heap.size ≤ q → A q := fun q h => by rw [← hAe]; exact Or.inr h
  have hS : va_S A s.heap s.heap [] := va_S.rf
  have hP : va_P D vwCl (kv_mw ci md th nw co ho ve la pr rg rp rm rc re ro rl cn tn tk sp ba) s.heap := hP
  have hinRX3 : ∀ w ∈ u_ws RX3 TX3 19, w ∈ wsX3_setCores := by decide +kernel
  generalize hRd : pf_X3_setCores p0 p1 th co = Rz at hRn
  have hRz := hRn
  refine kv_Q (fun Q hQ => ?_)
  refine W.eq (show entryFrame m args 4 = _ from by rw [hv0, lg_entry_eq]) ?_
  have hl := lv_entry ([.ref (md 0), .int p0, .int p1]) (n := 4) (Nat.le_of_ble_eq_true rfl)
  generalize (lg_sl ([.ref (md 0), .int p0, .int p1]) ++ List.replicate (4 - (lg_sl ([.ref (md 0), .int p0, .int p1])).length) Slot.unset).toArray = ls at hl ⊢
  have hl : lv_has ls 4 [(0, .ref (md 0)), (1, .int p0), (2, .int p1)] := hl
  have e : Rz = pf_X3_setCores p0 p1 th co := hRd.symm
  rw [pf_X3_setCores] at e
  refine lv_aload_n hx hb dX3_setCores_0 rfl (lv_at hl 0 rfl) ?_
  refine lv_iconst (v := 0) hx hb dX3_setCores_1 (by decide) ?_
  refine va_put (D := D) (ci := 4) (v := .int 0) (ty := .int) (C := RX3) (T := TX3) (N := 19) hx hb hts hinRX3 tyX3 tyX3_ok nmX3 hown hK hP hD hS 0 rfl rfl 0 (by decide) (hts (.fieldLink RX3 56 "LicenceKeeperModel" "thrown" "I") (by decide +kernel)) (fun _ h9 => h9) rfl (by decide +kernel) rfl rfl (Nat.le_of_ble_eq_true rfl) dX3_setCores_2 (fun H locs hP hD hS => ?_)
  have hP : va_P D vwCl (kv_mw ci md 0 nw co ho ve la pr rg rp rm rc re ro rl cn tn tk sp ba) H := hP
  have hD : va_D A (kv_mw ci md 0 nw co ho ve la pr rg rp rm rc re ro rl cn tn tk sp ba) := hD
  refine lv_iload_n hx hb dX3_setCores_5 rfl (lv_at hl 1 rfl) ?_
  refine kv_calli (va_runS (As := [.int p0]) (rest := []) ⟨hx, hb, hml, hown, hts⟩ (c_X3_isMachine l D ci md 0 nw co ho ve la pr rg rp rm rc re ro rl cn tn tk sp ba p0 (kv_q1_n e hRz) H.size) (va_cwS 1 hts gX3_setCores_X3_isMachine rfl rfl rfl (by decide +kernel) ⟨Nat.le_of_ble_eq_true rfl, Nat.le_of_ble_eq_true rfl⟩) (kv_preS hK hP hD) rfl rfl hl.1 rfl (lv_room (Nat.le_of_ble_eq_true rfl)) dX3_setCores_6 ⟨Nat.le_of_ble_eq_true rfl, Nat.le_of_ble_eq_true rfl⟩) hD hS hA (fun r_6 u_6 H locs hw_6 hP hD hS => ?_)
  have e := kv_q1_e e hw_6
  refine lv_if_ne (tgt := 18) hx hb dX3_setCores_9 (by decide) (fun c_9 => ?_) (fun c_9 => ?_)
  · have e := e.trans (if_neg c_9)
    refine lv_iload_n hx hb dX3_setCores_18 rfl (lv_at hl 2 rfl) ?_
    refine lv_iconst (v := 1) hx hb dX3_setCores_19 (by decide) ?_
    refine lv_bipush (v := 64) hx hb dX3_setCores_20 (by decide) ?_
    refine kv_calli (va_runS (As := [.int p1, .int 1, .int 64]) (rest := []) ⟨hx, hb, hml, hown, hts⟩ (c_X3_in l D ci md 0 nw co ho ve la pr rg rp rm rc re ro rl cn tn tk sp ba p1 1 64 (kv_q1_n e hRz) H.size) (va_cwS 3 hts gX3_setCores_X3_in rfl rfl rfl (by decide +kernel) ⟨Nat.le_of_ble_eq_true rfl, Nat.le_of_ble_eq_true rfl⟩) (kv_preS hK hP hD) rfl rfl hl.1 rfl (lv_room (Nat.le_of_ble_eq_true rfl)) dX3_setCores_22 ⟨Nat.le_of_ble_eq_true rfl, Nat.le_of_ble_eq_true rfl⟩) hD hS hA (fun r_22 u_22 H locs hw_22 hP hD hS => ?_)
    have e := kv_q1_e e hw_22
    refine lv_if_ne (tgt := 34) hx hb dX3_setCores_25 (by decide) (fun c_25 => ?_) (fun c_25 => ?_)
    · have e := e.trans (if_neg c_25)
      refine lv_aload_n hx hb dX3_setCores_34 rfl (lv_at hl 0 rfl) ?_
      refine va_get (D := D) (ci := 4) (v := .ref (md 1)) (C := RX3) (T := TX3) (N := 19) hx hb hts hinRX3 hown hK hP 0 rfl rfl 2 (by decide) (hts (.fieldLink RX3 7 "LicenceKeeperModel" "cores" "[I") (by decide +kernel)) (fun _ h9 => h9) rfl dX3_setCores_35 ?_
      refine lv_iload_n hx hb dX3_setCores_38 rfl (lv_at hl 1 rfl) ?_
      obtain ⟨hi_39, e⟩ := kv_G_e e hRz
      refine kv_iald hx hb hK hP 1 0 hi_39 dX3_setCores_39 rfl rfl (fun y_39 ey_39 => ?_)
      have e := kv_T_e e ey_39
      refine lv_istore_n (lv' := [(3, .int y_39), (0, .ref (md 0)), (1, .int p0), (2, .int p1)]) hx hb dX3_setCores_40 rfl hl (by decide) rfl (fun ls hl => ?_)
      refine lv_aload_n hx hb dX3_setCores_41 rfl (lv_at hl 1 rfl) ?_
      refine va_get (D := D) (ci := 4) (v := .ref (md 1)) (C := RX3) (T := TX3) (N := 19) hx hb hts hinRX3 hown hK hP 0 rfl rfl 2 (by decide) (hts (.fieldLink RX3 7 "LicenceKeeperModel" "cores" "[I") (by decide +kernel)) (fun _ h9 => h9) rfl dX3_setCores_42 ?_
      refine lv_iload_n hx hb dX3_setCores_45 rfl (lv_at hl 2 rfl) ?_
      refine lv_iload_n hx hb dX3_setCores_46 rfl (lv_at hl 3 rfl) ?_
      obtain ⟨hi_47, e⟩ := kv_G_e e hRz
      refine kv_iast hx hb hK hP hD hS 1 0 (fun g_47 => (kv_mw ci md 0 nw g_47 ho ve la pr rg rp rm rc re ro rl cn tn tk sp ba)) hi_47 dX3_setCores_47 rfl rfl (fun _ => rfl) (fun g_47 H locs eg_47 hP hD hS => ?_)
      have e := kv_T_e e eg_47
      refine lv_iload_n hx hb dX3_setCores_48 rfl (lv_at hl 0 rfl) ?_
      rw [hQ]
      exact W.iret (v := y_39) hx hb hr (fun t ht hW => ⟨⟨y_39, (0, g_47), rfl, e, ⟨by rw [ht]; exact hP, by rw [hAe]; exact hD⟩⟩, hS.F ht⟩) hS.2.2 dX3_setCores_49
    · have e := e.trans (if_pos c_25)
      refine lv_aload_n hx hb dX3_setCores_28 rfl (lv_at hl 0 rfl) ?_
      refine lv_iconst (v := 2) hx hb dX3_setCores_29 (by decide) ?_
      refine kv_calli (va_runV (As := [.int 2]) (rest := []) ⟨hx, hb, hml, hown, hts⟩ (c_X3_fails l D ci md 0 nw co ho ve la pr rg rp rm rc re ro rl cn tn tk sp ba 2 (kv_q2_n e hRz) H.size) (cwV 1 hts gX3_setCores_X3_fails rfl rfl rfl (by decide +kernel) ⟨Nat.le_of_ble_eq_true rfl, Nat.le_of_ble_eq_true rfl⟩) (kv_preV hK hP hD (r := (RX3, TX3, 19)) (q0 := 0) (k := 4) rfl rfl rfl) rfl rfl hl.1 rfl (lv_room (Nat.le_of_ble_eq_true rfl)) dX3_setCores_30 ⟨Nat.le_of_ble_eq_true rfl, Nat.le_of_ble_eq_true rfl⟩) hD hS hA (fun r_30 u_30 H locs hw_30 hP hD hS => ?_)
      have e := kv_q2_e e hw_30
      have hP : va_P D vwCl (kv_mw ci md u_30 nw co ho ve la pr rg rp rm rc re ro rl cn tn tk sp ba) H := hP
      have hD : va_D A (kv_mw ci md u_30 nw co ho ve la pr rg rp rm rc re ro rl cn tn tk sp ba) := hD
      rw [hQ]
      exact W.iret (v := r_30) hx hb hr (fun t ht hW => ⟨⟨r_30, (u_30, co), rfl, e, ⟨by rw [ht]; exact hP, by rw [hAe]; exact hD⟩⟩, hS.F ht⟩) hS.2.2 dX3_setCores_33
  · have e := e.trans (if_pos c_9)
    refine lv_aload_n hx hb dX3_setCores_12 rfl (lv_at hl 0 rfl) ?_
    refine lv_iconst (v := 1) hx hb dX3_setCores_13 (by decide) ?_
    refine kv_calli (va_runV (As := [.int 1]) (rest := []) ⟨hx, hb, hml, hown, hts⟩ (c_X3_fails l D ci md 0 nw co ho ve la pr rg rp rm rc re ro rl cn tn tk sp ba 1 (kv_q2_n e hRz) H.size) (cwV 1 hts gX3_setCores_X3_fails rfl rfl rfl (by decide +kernel) ⟨Nat.le_of_ble_eq_true rfl, Nat.le_of_ble_eq_true rfl⟩) (kv_preV hK hP hD (r := (RX3, TX3, 19)) (q0 := 0) (k := 4) rfl rfl rfl) rfl rfl hl.1 rfl (lv_room (Nat.le_of_ble_eq_true rfl)) dX3_setCores_14 ⟨Nat.le_of_ble_eq_true rfl, Nat.le_of_ble_eq_true rfl⟩) hD hS hA (fun r_14 u_14 H locs hw_14 hP hD hS => ?_)
    have e := kv_q2_e e hw_14
    have hP : va_P D vwCl (kv_mw ci md u_14 nw co ho ve la pr rg rp rm rc re ro rl cn tn tk sp ba) H := hP
    have hD : va_D A (kv_mw ci md u_14 nw co ho ve la pr rg rp rm rc re ro rl cn tn tk sp ba) := hD
    rw [hQ]
    exact W.iret (v := r_14) hx hb hr (fun t ht hW => ⟨⟨r_14, (u_14, co), rfl, e, ⟨by rw [ht]; exact hP, by rw [hAe]; exact hD⟩⟩, hS.F ht⟩) hS.2.2 dX3_setCores_17

def pf_X3_isHost_29 (ho : Nat → Int32) (p0 : Int32) (k_4 : Int32 → Int32 → Option (Int32)) (x3 : Int32) (z0 : Int32)  : Option (Int32) :=
  k_4 z0 (x3 + 1)
def pf_X3_isHost_4b (ho : Nat → Int32) (p0 : Int32)  (k_4 : Int32 → Int32 → Option (Int32)) (x2 : Int32) (x3 : Int32)  : Option (Int32) :=
  if 8 ≤ x3 then kv_B x2 (some (x2)) else if x2 = 0 then kv_G x3 8 (kv_T (ho x3.toNatClampNeg) (fun y_19 => if y_19 = p0 then pf_X3_isHost_29 ho p0 k_4 x3 1 else pf_X3_isHost_29 ho p0 k_4 x3 0)) else pf_X3_isHost_29 ho p0 k_4 x3 1
def pf_X3_isHost_4 (ho : Nat → Int32) (p0 : Int32)  : Nat → Int32 → Int32 → Option (Int32)
  | 0, _, _ => none
  | nn + 1, x2, x3 => pf_X3_isHost_4b ho p0  (pf_X3_isHost_4 ho p0  nn) x2 x3
def pf_X3_isHost (ho : Nat → Int32) (p0 : Int32)  : Option (Int32) :=
  pf_X3_isHost_4 ho p0 kv_F 0 0
abbrev rmX3_isHost : Room := { frames := 0, cells := 0, slots := 0, locals := 0 }
set_option maxHeartbeats 4000000 in
set_option maxRecDepth 100000 in
theorem c_X3_isHost (l : Launch) (D : va_G) (ci md : Nat → Nat) (th : Int32) (nw : Int32) (co : Nat → Int32) (ho : Nat → Int32) (ve : Nat → Int32) (la : Nat → Int32) (pr : Nat → Int32) (rg : Int32) (rp : Nat → Int32) (rm : Nat → Int32) (rc : Nat → Int32) (re : Nat → Int32) (ro : Nat → Int32) (rl : Nat → Int32) (cn : Nat → Int32) (tn : Nat → Int32) (tk : Nat → Int32) (sp : Nat → Int32) (ba : Int32) (p0 : Int32)  (hRn : pf_X3_isHost ho p0 ≠ none) (sz : Nat) : Met l yX3_isHost wsX3_isHost rmX3_isHost (va_Pc [.ref (md 0), .int p0] (kv_pre D ci (kv_mw ci md th nw co ho ve la pr rg rp rm rc re ro rl cn tn tk sp ba) sz)) (va_Qi (fun (r : Int32) (u : Unit) => pf_X3_isHost ho p0 = some (r)) (fun u t => kv_post D (kv_mw ci md th nw co ho ve la pr rg rp rm rc re ro rl cn tn tk sp ba) sz (kv_mw ci md th nw co ho ve la pr rg rp rm rc re ro rl cn tn tk sp ba) t) (va_A (kv_mw ci md th nw co ho ve la pr rg rp rm rc re ro rl cn tn tk sp ba) sz)) 0 0 (va_A (kv_mw ci md th nw co ho ve la pr rg rp rm rc re ro rl cn tn tk sp ba) sz) := by
  refine Met.ofW (cc := cX3_isHost) (maxL := 4) (ret := (some .boolean)) (by decide) rfl ?_
  intro p en s m args below meth c s₁ B hml hv
  obtain ⟨hv0, hsz, hP, hK, hD0⟩ := hv
  have hx := B.exec
  have hb := B.bytes
  have hr := B.returns
  have hts := atoms_spec (ws := wsX3_isHost) B.pre
  have hown : s.vm.findClass RX3 = some m.cls := findClass_of_methodNamed B.named
  have hlocks := B.notSynchronized
  subst hsz
  have hD := hD0.self (sz := s.heap.size)
  generalize hAe : va_A (kv_mw ci md th nw co ho ve la pr rg rp rm rc re ro rl cn tn tk sp ba) s.heap.size = A at hD ⊢
  have hA : ∀ q : Nat, s.heap.size ≤ q → A q := fun q h => by rw [← hAe]; exact Or.inr h
  have hS : va_S A s.heap s.heap [] := va_S.rf
  have hP : va_P D vwCl (kv_mw ci md th nw co ho ve la pr rg rp rm rc re ro rl cn tn tk sp ba) s.heap := hP
  have hinRX3 : ∀ w ∈ u_ws RX3 TX3 19, w ∈ wsX3_isHost := by decide +kernel
  generalize hRd : pf_X3_isHost ho p0 = Rz at hRn
  have hRz := hRn
  refine kv_Q (fun Q hQ => ?_)
  refine W.eq (show entryFrame m args 4 = _ from by rw [hv0, lg_entry_eq]) ?_
  have hl := lv_entry ([.ref (md 0), .int p0]) (n := 4) (Nat.le_of_ble_eq_true rfl)
  generalize (lg_sl ([.ref (md 0), .int p0]) ++ List.replicate (4 - (lg_sl ([.ref (md 0), .int p0])).length) Slot.unset).toArray = ls at hl ⊢
  have hl : lv_has ls 4 [(0, .ref (md 0)), (1, .int p0)] := hl
  have e : Rz = pf_X3_isHost ho p0 := hRd.symm
  rw [pf_X3_isHost] at e
  have hb_4 : ∀ (n_4 : Nat), ∀ (x2 : Int32) (x3 : Int32) (H : Heap) (locs : List Loc) (ls : Array Slot), va_P D vwCl (kv_mw ci md th nw co ho ve la pr rg rp rm rc re ro rl cn tn tk sp ba) H → va_D A (kv_mw ci md th nw co ho ve la pr rg rp rm rc re ro rl cn tn tk sp ba) → va_S A s.heap H locs → lv_has ls 4 [(0, .ref (md 0)), (1, .int p0), (2, .int x2), (3, .int x3)] → Rz = pf_X3_isHost_4 ho p0  n_4 x2 x3 → W p l en rmX3_isHost s m args below meth c H locs 0 0 Q (F0 m 4 ls []) := by
    intro n_4
    induction n_4 with
    | zero =>
      intro x2 x3 H locs ls  _ _ _ _ e
      exact absurd e hRz
    | succ n_4 ih_4 =>
      have hb_29 : ∀ (x3 : Int32) (z0 : Int32) (H : Heap) (locs : List Loc) (ls : Array Slot), va_P D vwCl (kv_mw ci md th nw co ho ve la pr rg rp rm rc re ro rl cn tn tk sp ba) H → va_D A (kv_mw ci md th nw co ho ve la pr rg rp rm rc re ro rl cn tn tk sp ba) → va_S A s.heap H locs → lv_has ls 4 [(0, .ref (md 0)), (1, .int p0), (3, .int x3)] → Rz = pf_X3_isHost_29 ho p0 (pf_X3_isHost_4 ho p0  n_4) x3 z0 → W p l en rmX3_isHost s m args below meth c H locs 0 0 Q (F0 m 29 ls [.int z0]) := by
        intro x3 z0 H locs ls  hP hD hS hl e
        rw [pf_X3_isHost_29] at e
        refine lv_istore_n (lv' := [(2, .int z0), (0, .ref (md 0)), (1, .int p0), (3, .int x3)]) hx hb dX3_isHost_29 rfl hl (by decide) rfl (fun ls hl => ?_)
        refine lv_iinc (v := x3 + 1) (lv' := [(3, .int (x3 + 1)), (2, .int z0), (0, .ref (md 0)), (1, .int p0)]) hx hb dX3_isHost_30 hl (k := 3) rfl rfl (by decide) rfl (fun ls hl => ?_)
        refine lv_goto (tgt := 4) hx hb dX3_isHost_33 (by decide) ?_
        exact ih_4 z0 (x3 + 1)  _ _ _ hP hD hS (lv_sub hl [2, 3, 1, 0] rfl) e
      intro x2 x3 H locs ls  hP hD hS hl e
      rw [pf_X3_isHost_4, pf_X3_isHost_4b] at e
      refine lv_iload_n hx hb dX3_isHost_4 rfl (lv_at hl 3 rfl) ?_
      refine lv_bipush (v := 8) hx hb dX3_isHost_5 (by decide) ?_
      refine lv_icmp_ge (tgt := 36) hx hb dX3_isHost_7 (by decide) (fun c_7 => ?_) (fun c_7 => ?_)
      · have e := e.trans (if_pos c_7)
        refine lv_iload_n hx hb dX3_isHost_36 rfl (lv_at hl 2 rfl) ?_
        obtain ⟨hn9, e⟩ := kv_B_e e hRz
        rw [hQ]
        exact W.zret (v := x2) hx hb hr hn9 (fun t ht hW => ⟨⟨x2, (), rfl, e, ⟨by rw [ht]; exact hP, by rw [hAe]; exact hD⟩⟩, hS.F ht⟩) hS.2.2 dX3_isHost_37
      · have e := e.trans (if_neg c_7)
        refine lv_iload_n hx hb dX3_isHost_10 rfl (lv_at hl 2 rfl) ?_
        refine lv_if_ne (tgt := 24) hx hb dX3_isHost_11 (by decide) (fun c_11 => ?_) (fun c_11 => ?_)
        · have e := e.trans (if_neg c_11)
          refine lv_iconst (v := 1) hx hb dX3_isHost_24 (by decide) ?_
          refine lv_goto (tgt := 29) hx hb dX3_isHost_25 (by decide) ?_
          exact hb_29 x3 1  _ _ _ hP hD hS (lv_sub hl [0, 1, 3] rfl) e
        · have e := e.trans (if_pos c_11)
          refine lv_aload_n hx hb dX3_isHost_14 rfl (lv_at hl 0 rfl) ?_
          refine va_get (D := D) (ci := 4) (v := .ref (md 2)) (C := RX3) (T := TX3) (N := 19) hx hb hts hinRX3 hown hK hP 0 rfl rfl 3 (by decide) (hts (.fieldLink RX3 13 "LicenceKeeperModel" "host" "[I") (by decide +kernel)) (fun _ h9 => h9) rfl dX3_isHost_15 ?_
          refine lv_iload_n hx hb dX3_isHost_18 rfl (lv_at hl 3 rfl) ?_
          obtain ⟨hi_19, e⟩ := kv_G_e e hRz
          refine kv_iald hx hb hK hP 2 0 hi_19 dX3_isHost_19 rfl rfl (fun y_19 ey_19 => ?_)
          have e := kv_T_e e ey_19
          refine lv_iload_n hx hb dX3_isHost_20 rfl (lv_at hl 1 rfl) ?_
          refine lv_icmp_ne (tgt := 28) hx hb dX3_isHost_21 (by decide) (fun c_21 => ?_) (fun c_21 => ?_)
          · have e := e.trans (if_neg c_21)
            refine lv_iconst (v := 0) hx hb dX3_isHost_28 (by decide) ?_
            exact hb_29 x3 0  _ _ _ hP hD hS (lv_sub hl [0, 1, 3] rfl) e
          · have e := e.trans (if_pos c_21)
            refine lv_iconst (v := 1) hx hb dX3_isHost_24 (by decide) ?_
            refine lv_goto (tgt := 29) hx hb dX3_isHost_25 (by decide) ?_
            exact hb_29 x3 1  _ _ _ hP hD hS (lv_sub hl [0, 1, 3] rfl) e
  refine lv_iconst (v := 0) hx hb dX3_isHost_0 (by decide) ?_
  refine lv_istore_n (lv' := [(2, .int 0), (0, .ref (md 0)), (1, .int p0)]) hx hb dX3_isHost_1 rfl hl (by decide) rfl (fun ls hl => ?_)
  refine lv_iconst (v := 0) hx hb dX3_isHost_2 (by decide) ?_
  refine lv_istore_n (lv' := [(3, .int 0), (2, .int 0), (0, .ref (md 0)), (1, .int p0)]) hx hb dX3_isHost_3 rfl hl (by decide) rfl (fun ls hl => ?_)
  exact hb_4 kv_F 0 0  _ _ _ hP hD hS (lv_sub hl [2, 3, 1, 0] rfl) e

def pf_X3_refuses_21 (ho : Nat → Int32) (p0 : Int32) (p1 : Int32)    : Option (Int32) :=
  if p0 = p1 then some (2) else if p1 = (-1) then some (0) else kv_q1 (pf_X3_isHost ho p0) (fun r_35 => if r_35 = 0 then kv_G p1 8 (kv_T (ho p1.toNatClampNeg) (fun y_46 => if y_46 = (-1) then some (0) else some (3))) else some (3))
def pf_X3_refuses (ho : Nat → Int32) (p0 : Int32) (p1 : Int32)  : Option (Int32) :=
  kv_q1 (pf_X3_isMachine p0) (fun r_1 => if r_1 = 0 then some (1) else if p1 = (-1) then pf_X3_refuses_21 ho p0 p1 else kv_q1 (pf_X3_isMachine p1) (fun r_13 => if r_13 = 0 then some (1) else pf_X3_refuses_21 ho p0 p1))
abbrev rmX3_refuses : Room := { frames := 2, cells := 0, slots := 0, locals := 42 }
set_option maxHeartbeats 4000000 in
set_option maxRecDepth 100000 in
theorem c_X3_refuses (l : Launch) (D : va_G) (ci md : Nat → Nat) (th : Int32) (nw : Int32) (co : Nat → Int32) (ho : Nat → Int32) (ve : Nat → Int32) (la : Nat → Int32) (pr : Nat → Int32) (rg : Int32) (rp : Nat → Int32) (rm : Nat → Int32) (rc : Nat → Int32) (re : Nat → Int32) (ro : Nat → Int32) (rl : Nat → Int32) (cn : Nat → Int32) (tn : Nat → Int32) (tk : Nat → Int32) (sp : Nat → Int32) (ba : Int32) (p0 : Int32) (p1 : Int32)  (hRn : pf_X3_refuses ho p0 p1 ≠ none) (sz : Nat) : Met l yX3_refuses wsX3_refuses rmX3_refuses (va_Pc [.ref (md 0), .int p0, .int p1] (kv_pre D ci (kv_mw ci md th nw co ho ve la pr rg rp rm rc re ro rl cn tn tk sp ba) sz)) (va_Qi (fun (r : Int32) (u : Unit) => pf_X3_refuses ho p0 p1 = some (r)) (fun u t => kv_post D (kv_mw ci md th nw co ho ve la pr rg rp rm rc re ro rl cn tn tk sp ba) sz (kv_mw ci md th nw co ho ve la pr rg rp rm rc re ro rl cn tn tk sp ba) t) (va_A (kv_mw ci md th nw co ho ve la pr rg rp rm rc re ro rl cn tn tk sp ba) sz)) 0 0 (va_A (kv_mw ci md th nw co ho ve la pr rg rp rm rc re ro rl cn tn tk sp ba) sz) := by
  refine Met.ofW (cc := cX3_refuses) (maxL := 3) (ret := (some .int)) (by decide) rfl ?_
  intro p en s m args below meth c s₁ B hml hv
  obtain ⟨hv0, hsz, hP, hK, hD0⟩ := hv
  have hx := B.exec
  have hb := B.bytes
  have hr := B.returns
  have hts := atoms_spec (ws := wsX3_refuses) B.pre
  have hown : s.vm.findClass RX3 = some m.cls := findClass_of_methodNamed B.named
  have hlocks := B.notSynchronized
  subst hsz
  have hD := hD0.self (sz := s.heap.size)
  generalize hAe : va_A (kv_mw ci md th nw co ho ve la pr rg rp rm rc re ro rl cn tn tk sp ba) s.heap.size = A at hD ⊢
  have hA : ∀ q : Nat, s.heap.size ≤ q → A q := fun q h => by rw [← hAe]; exact Or.inr h
  have hS : va_S A s.heap s.heap [] := va_S.rf
  have hP : va_P D vwCl (kv_mw ci md th nw co ho ve la pr rg rp rm rc re ro rl cn tn tk sp ba) s.heap := hP
  have hinRX3 : ∀ w ∈ u_ws RX3 TX3 19, w ∈ wsX3_refuses := by decide +kernel
  generalize hRd : pf_X3_refuses ho p0 p1 = Rz at hRn
  have hRz := hRn
  refine kv_Q (fun Q hQ => ?_)
  refine W.eq (show entryFrame m args 3 = _ from by rw [hv0, lg_entry_eq]) ?_
  have hl := lv_entry ([.ref (md 0), .int p0, .int p1]) (n := 3) (Nat.le_of_ble_eq_true rfl)
  generalize (lg_sl ([.ref (md 0), .int p0, .int p1]) ++ List.replicate (3 - (lg_sl ([.ref (md 0), .int p0, .int p1])).length) Slot.unset).toArray = ls at hl ⊢
  have hl : lv_has ls 3 [(0, .ref (md 0)), (1, .int p0), (2, .int p1)] := hl
  have e : Rz = pf_X3_refuses ho p0 p1 := hRd.symm
  rw [pf_X3_refuses] at e
  have hb_21 : ∀  (H : Heap) (locs : List Loc) (ls : Array Slot), va_P D vwCl (kv_mw ci md th nw co ho ve la pr rg rp rm rc re ro rl cn tn tk sp ba) H → va_D A (kv_mw ci md th nw co ho ve la pr rg rp rm rc re ro rl cn tn tk sp ba) → va_S A s.heap H locs → lv_has ls 3 [(0, .ref (md 0)), (1, .int p0), (2, .int p1)] → Rz = pf_X3_refuses_21 ho p0 p1   → W p l en rmX3_refuses s m args below meth c H locs 0 0 Q (F0 m 21 ls []) := by
    intro  H locs ls  hP hD hS hl e
    rw [pf_X3_refuses_21] at e
    refine lv_iload_n hx hb dX3_refuses_21 rfl (lv_at hl 1 rfl) ?_
    refine lv_iload_n hx hb dX3_refuses_22 rfl (lv_at hl 2 rfl) ?_
    refine lv_icmp_ne (tgt := 28) hx hb dX3_refuses_23 (by decide) (fun c_23 => ?_) (fun c_23 => ?_)
    · have e := e.trans (if_neg c_23)
      refine lv_iload_n hx hb dX3_refuses_28 rfl (lv_at hl 2 rfl) ?_
      refine lv_iconst (v := (-1)) hx hb dX3_refuses_29 (by decide) ?_
      refine lv_icmp_eq (tgt := 55) hx hb dX3_refuses_30 (by decide) (fun c_30 => ?_) (fun c_30 => ?_)
      · have e := e.trans (if_pos c_30)
        refine lv_iconst (v := 0) hx hb dX3_refuses_55 (by decide) ?_
        rw [hQ]
        exact W.iret (v := 0) hx hb hr (fun t ht hW => ⟨⟨0, (), rfl, e, ⟨by rw [ht]; exact hP, by rw [hAe]; exact hD⟩⟩, hS.F ht⟩) hS.2.2 dX3_refuses_56
      · have e := e.trans (if_neg c_30)
        refine lv_aload_n hx hb dX3_refuses_33 rfl (lv_at hl 0 rfl) ?_
        refine lv_iload_n hx hb dX3_refuses_34 rfl (lv_at hl 1 rfl) ?_
        refine kv_calli (va_runV (As := [.int p0]) (rest := []) ⟨hx, hb, hml, hown, hts⟩ (c_X3_isHost l D ci md th nw co ho ve la pr rg rp rm rc re ro rl cn tn tk sp ba p0 (kv_q1_n e hRz) H.size) (cwV 1 hts gX3_refuses_X3_isHost rfl rfl rfl (by decide +kernel) ⟨Nat.le_of_ble_eq_true rfl, Nat.le_of_ble_eq_true rfl⟩) (kv_preV hK hP hD (r := (RX3, TX3, 19)) (q0 := 0) (k := 4) rfl rfl rfl) rfl rfl hl.1 rfl (lv_room (Nat.le_of_ble_eq_true rfl)) dX3_refuses_35 ⟨Nat.le_of_ble_eq_true rfl, Nat.le_of_ble_eq_true rfl⟩) hD hS hA (fun r_35 u_35 H locs hw_35 hP hD hS => ?_)
        have e := kv_q1_e e hw_35
        refine lv_if_ne (tgt := 51) hx hb dX3_refuses_38 (by decide) (fun c_38 => ?_) (fun c_38 => ?_)
        · have e := e.trans (if_neg c_38)
          refine lv_iconst (v := 3) hx hb dX3_refuses_51 (by decide) ?_
          refine lv_goto (tgt := 56) hx hb dX3_refuses_52 (by decide) ?_
          rw [hQ]
          exact W.iret (v := 3) hx hb hr (fun t ht hW => ⟨⟨3, (), rfl, e, ⟨by rw [ht]; exact hP, by rw [hAe]; exact hD⟩⟩, hS.F ht⟩) hS.2.2 dX3_refuses_56
        · have e := e.trans (if_pos c_38)
          refine lv_aload_n hx hb dX3_refuses_41 rfl (lv_at hl 0 rfl) ?_
          refine va_get (D := D) (ci := 4) (v := .ref (md 2)) (C := RX3) (T := TX3) (N := 19) hx hb hts hinRX3 hown hK hP 0 rfl rfl 3 (by decide) (hts (.fieldLink RX3 13 "LicenceKeeperModel" "host" "[I") (by decide +kernel)) (fun _ h9 => h9) rfl dX3_refuses_42 ?_
          refine lv_iload_n hx hb dX3_refuses_45 rfl (lv_at hl 2 rfl) ?_
          obtain ⟨hi_46, e⟩ := kv_G_e e hRz
          refine kv_iald hx hb hK hP 2 0 hi_46 dX3_refuses_46 rfl rfl (fun y_46 ey_46 => ?_)
          have e := kv_T_e e ey_46
          refine lv_iconst (v := (-1)) hx hb dX3_refuses_47 (by decide) ?_
          refine lv_icmp_eq (tgt := 55) hx hb dX3_refuses_48 (by decide) (fun c_48 => ?_) (fun c_48 => ?_)
          · have e := e.trans (if_pos c_48)
            refine lv_iconst (v := 0) hx hb dX3_refuses_55 (by decide) ?_
            rw [hQ]
            exact W.iret (v := 0) hx hb hr (fun t ht hW => ⟨⟨0, (), rfl, e, ⟨by rw [ht]; exact hP, by rw [hAe]; exact hD⟩⟩, hS.F ht⟩) hS.2.2 dX3_refuses_56
          · have e := e.trans (if_neg c_48)
            refine lv_iconst (v := 3) hx hb dX3_refuses_51 (by decide) ?_
            refine lv_goto (tgt := 56) hx hb dX3_refuses_52 (by decide) ?_
            rw [hQ]
            exact W.iret (v := 3) hx hb hr (fun t ht hW => ⟨⟨3, (), rfl, e, ⟨by rw [ht]; exact hP, by rw [hAe]; exact hD⟩⟩, hS.F ht⟩) hS.2.2 dX3_refuses_56
    · have e := e.trans (if_pos c_23)
      refine lv_iconst (v := 2) hx hb dX3_refuses_26 (by decide) ?_
      rw [hQ]
      exact W.iret (v := 2) hx hb hr (fun t ht hW => ⟨⟨2, (), rfl, e, ⟨by rw [ht]; exact hP, by rw [hAe]; exact hD⟩⟩, hS.F ht⟩) hS.2.2 dX3_refuses_27
  refine lv_iload_n hx hb dX3_refuses_0 rfl (lv_at hl 1 rfl) ?_
  refine kv_calli (va_runS (As := [.int p0]) (rest := []) ⟨hx, hb, hml, hown, hts⟩ (c_X3_isMachine l D ci md th nw co ho ve la pr rg rp rm rc re ro rl cn tn tk sp ba p0 (kv_q1_n e hRz) s.heap.size) (va_cwS 1 hts gX3_refuses_X3_isMachine rfl rfl rfl (by decide +kernel) ⟨Nat.le_of_ble_eq_true rfl, Nat.le_of_ble_eq_true rfl⟩) (kv_preS hK hP hD) rfl rfl hl.1 rfl (lv_room (Nat.le_of_ble_eq_true rfl)) dX3_refuses_1 ⟨Nat.le_of_ble_eq_true rfl, Nat.le_of_ble_eq_true rfl⟩) hD hS hA (fun r_1 u_1 H locs hw_1 hP hD hS => ?_)
  have e := kv_q1_e e hw_1
  refine lv_if_eq (tgt := 19) hx hb dX3_refuses_4 (by decide) (fun c_4 => ?_) (fun c_4 => ?_)
  · have e := e.trans (if_pos c_4)
    refine lv_iconst (v := 1) hx hb dX3_refuses_19 (by decide) ?_
    rw [hQ]
    exact W.iret (v := 1) hx hb hr (fun t ht hW => ⟨⟨1, (), rfl, e, ⟨by rw [ht]; exact hP, by rw [hAe]; exact hD⟩⟩, hS.F ht⟩) hS.2.2 dX3_refuses_20
  · have e := e.trans (if_neg c_4)
    refine lv_iload_n hx hb dX3_refuses_7 rfl (lv_at hl 2 rfl) ?_
    refine lv_iconst (v := (-1)) hx hb dX3_refuses_8 (by decide) ?_
    refine lv_icmp_eq (tgt := 21) hx hb dX3_refuses_9 (by decide) (fun c_9 => ?_) (fun c_9 => ?_)
    · have e := e.trans (if_pos c_9)
      exact hb_21   _ _ _ hP hD hS (lv_sub hl [0, 1, 2] rfl) e
    · have e := e.trans (if_neg c_9)
      refine lv_iload_n hx hb dX3_refuses_12 rfl (lv_at hl 2 rfl) ?_
      refine kv_calli (va_runS (As := [.int p1]) (rest := []) ⟨hx, hb, hml, hown, hts⟩ (c_X3_isMachine l D ci md th nw co ho ve la pr rg rp rm rc re ro rl cn tn tk sp ba p1 (kv_q1_n e hRz) H.size) (va_cwS 1 hts gX3_refuses_X3_isMachine rfl rfl rfl (by decide +kernel) ⟨Nat.le_of_ble_eq_true rfl, Nat.le_of_ble_eq_true rfl⟩) (kv_preS hK hP hD) rfl rfl hl.1 rfl (lv_room (Nat.le_of_ble_eq_true rfl)) dX3_refuses_13 ⟨Nat.le_of_ble_eq_true rfl, Nat.le_of_ble_eq_true rfl⟩) hD hS hA (fun r_13 u_13 H locs hw_13 hP hD hS => ?_)
      have e := kv_q1_e e hw_13
      refine lv_if_ne (tgt := 21) hx hb dX3_refuses_16 (by decide) (fun c_16 => ?_) (fun c_16 => ?_)
      · have e := e.trans (if_neg c_16)
        exact hb_21   _ _ _ hP hD hS (lv_sub hl [0, 1, 2] rfl) e
      · have e := e.trans (if_pos c_16)
        refine lv_iconst (v := 1) hx hb dX3_refuses_19 (by decide) ?_
        rw [hQ]
        exact W.iret (v := 1) hx hb hr (fun t ht hW => ⟨⟨1, (), rfl, e, ⟨by rw [ht]; exact hP, by rw [hAe]; exact hD⟩⟩, hS.F ht⟩) hS.2.2 dX3_refuses_20

def pf_X3_move (p0 : Int32) (p1 : Int32) (th : Int32) (ho : Nat → Int32) : Option (Int32 × Int32 × (Nat → Int32)) :=
  kv_q1 (pf_X3_refuses ho p0 p1) (fun r_4 => if r_4 ≤ 0 then kv_G p0 8 (kv_T (ho p0.toNatClampNeg) (fun y_24 => kv_G p0 8 (kv_T (upd ho p0.toNatClampNeg p1) (fun g_32 => some (y_24, r_4, g_32))))) else some (0, r_4, ho))
abbrev rmX3_move : Room := { frames := 3, cells := 0, slots := 0, locals := 64 }
set_option maxHeartbeats 4000000 in
set_option maxRecDepth 100000 in
theorem c_X3_move (l : Launch) (D : va_G) (ci md : Nat → Nat) (th : Int32) (nw : Int32) (co : Nat → Int32) (ho : Nat → Int32) (ve : Nat → Int32) (la : Nat → Int32) (pr : Nat → Int32) (rg : Int32) (rp : Nat → Int32) (rm : Nat → Int32) (rc : Nat → Int32) (re : Nat → Int32) (ro : Nat → Int32) (rl : Nat → Int32) (cn : Nat → Int32) (tn : Nat → Int32) (tk : Nat → Int32) (sp : Nat → Int32) (ba : Int32) (p0 : Int32) (p1 : Int32)  (hRn : pf_X3_move p0 p1 th ho ≠ none) (sz : Nat) : Met l yX3_move wsX3_move rmX3_move (va_Pc [.ref (md 0), .int p0, .int p1] (kv_pre D ci (kv_mw ci md th nw co ho ve la pr rg rp rm rc re ro rl cn tn tk sp ba) sz)) (va_Qi (fun (r : Int32) (u : Int32 × (Nat → Int32)) => pf_X3_move p0 p1 th ho = some (r, u)) (fun u t => kv_post D (kv_mw ci md th nw co ho ve la pr rg rp rm rc re ro rl cn tn tk sp ba) sz (kv_mw ci md u.1 nw co u.2 ve la pr rg rp rm rc re ro rl cn tn tk sp ba) t) (va_A (kv_mw ci md th nw co ho ve la pr rg rp rm rc re ro rl cn tn tk sp ba) sz)) 0 0 (va_A (kv_mw ci md th nw co ho ve la pr rg rp rm rc re ro rl cn tn tk sp ba) sz) := by
  refine Met.ofW (cc := cX3_move) (maxL := 4) (ret := (some .int)) (by decide) rfl ?_
  intro p en s m args below meth c s₁ B hml hv
  obtain ⟨hv0, hsz, hP, hK, hD0⟩ := hv
  have hx := B.exec
  have hb := B.bytes
  have hr := B.returns
  have hts := atoms_spec (ws := wsX3_move) B.pre
  have hown : s.vm.findClass RX3 = some m.cls := findClass_of_methodNamed B.named
  have hlocks := B.notSynchronized
  subst hsz
  have hD := hD0.self (sz := s.heap.size)
  generalize hAe : va_A (kv_mw ci md th nw co ho ve la pr rg rp rm rc re ro rl cn tn tk sp ba) s.heap.size = A at hD ⊢
  have hA : ∀ q : Nat, s.heap.size ≤ q → A q := fun q h => by rw [← hAe]; exact Or.inr h
  have hS : va_S A s.heap s.heap [] := va_S.rf
  have hP : va_P D vwCl (kv_mw ci md th nw co ho ve la pr rg rp rm rc re ro rl cn tn tk sp ba) s.heap := hP
  have hinRX3 : ∀ w ∈ u_ws RX3 TX3 19, w ∈ wsX3_move := by decide +kernel
  generalize hRd : pf_X3_move p0 p1 th ho = Rz at hRn
  have hRz := hRn
  refine kv_Q (fun Q hQ => ?_)
  refine W.eq (show entryFrame m args 4 = _ from by rw [hv0, lg_entry_eq]) ?_
  have hl := lv_entry ([.ref (md 0), .int p0, .int p1]) (n := 4) (Nat.le_of_ble_eq_true rfl)
  generalize (lg_sl ([.ref (md 0), .int p0, .int p1]) ++ List.replicate (4 - (lg_sl ([.ref (md 0), .int p0, .int p1])).length) Slot.unset).toArray = ls at hl ⊢
  have hl : lv_has ls 4 [(0, .ref (md 0)), (1, .int p0), (2, .int p1)] := hl
  have e : Rz = pf_X3_move p0 p1 th ho := hRd.symm
  rw [pf_X3_move] at e
  refine lv_aload_n hx hb dX3_move_0 rfl (lv_at hl 0 rfl) ?_
  refine lv_aload_n hx hb dX3_move_1 rfl (lv_at hl 0 rfl) ?_
  refine lv_iload_n hx hb dX3_move_2 rfl (lv_at hl 1 rfl) ?_
  refine lv_iload_n hx hb dX3_move_3 rfl (lv_at hl 2 rfl) ?_
  refine kv_calli (va_runV (As := [.int p0, .int p1]) (rest := [.ref (md 0)]) ⟨hx, hb, hml, hown, hts⟩ (c_X3_refuses l D ci md th nw co ho ve la pr rg rp rm rc re ro rl cn tn tk sp ba p0 p1 (kv_q1_n e hRz) s.heap.size) (cwV 2 hts gX3_move_X3_refuses rfl rfl rfl (by decide +kernel) ⟨Nat.le_of_ble_eq_true rfl, Nat.le_of_ble_eq_true rfl⟩) (kv_preV hK hP hD (r := (RX3, TX3, 19)) (q0 := 0) (k := 4) rfl rfl rfl) rfl rfl hl.1 rfl (lv_room (Nat.le_of_ble_eq_true rfl)) dX3_move_4 ⟨Nat.le_of_ble_eq_true rfl, Nat.le_of_ble_eq_true rfl⟩) hD hS hA (fun r_4 u_4 H locs hw_4 hP hD hS => ?_)
  have e := kv_q1_e e hw_4
  refine va_put (D := D) (ci := 4) (v := .int r_4) (ty := .int) (C := RX3) (T := TX3) (N := 19) hx hb hts hinRX3 tyX3 tyX3_ok nmX3 hown hK hP hD hS 0 rfl rfl 0 (by decide) (hts (.fieldLink RX3 56 "LicenceKeeperModel" "thrown" "I") (by decide +kernel)) (fun _ h9 => h9) rfl (by decide +kernel) rfl rfl (Nat.le_of_ble_eq_true rfl) dX3_move_7 (fun H locs hP hD hS => ?_)
  have hP : va_P D vwCl (kv_mw ci md r_4 nw co ho ve la pr rg rp rm rc re ro rl cn tn tk sp ba) H := hP
  have hD : va_D A (kv_mw ci md r_4 nw co ho ve la pr rg rp rm rc re ro rl cn tn tk sp ba) := hD
  refine lv_aload_n hx hb dX3_move_10 rfl (lv_at hl 0 rfl) ?_
  refine va_get (D := D) (ci := 4) (v := .int r_4) (C := RX3) (T := TX3) (N := 19) hx hb hts hinRX3 hown hK hP 0 rfl rfl 0 (by decide) (hts (.fieldLink RX3 56 "LicenceKeeperModel" "thrown" "I") (by decide +kernel)) (fun _ h9 => h9) rfl dX3_move_11 ?_
  refine lv_if_le (tgt := 19) hx hb dX3_move_14 (by decide) (fun c_14 => ?_) (fun c_14 => ?_)
  · have e := e.trans (if_pos c_14)
    refine lv_aload_n hx hb dX3_move_19 rfl (lv_at hl 0 rfl) ?_
    refine va_get (D := D) (ci := 4) (v := .ref (md 2)) (C := RX3) (T := TX3) (N := 19) hx hb hts hinRX3 hown hK hP 0 rfl rfl 3 (by decide) (hts (.fieldLink RX3 13 "LicenceKeeperModel" "host" "[I") (by decide +kernel)) (fun _ h9 => h9) rfl dX3_move_20 ?_
    refine lv_iload_n hx hb dX3_move_23 rfl (lv_at hl 1 rfl) ?_
    obtain ⟨hi_24, e⟩ := kv_G_e e hRz
    refine kv_iald hx hb hK hP 2 0 hi_24 dX3_move_24 rfl rfl (fun y_24 ey_24 => ?_)
    have e := kv_T_e e ey_24
    refine lv_istore_n (lv' := [(3, .int y_24), (0, .ref (md 0)), (1, .int p0), (2, .int p1)]) hx hb dX3_move_25 rfl hl (by decide) rfl (fun ls hl => ?_)
    refine lv_aload_n hx hb dX3_move_26 rfl (lv_at hl 1 rfl) ?_
    refine va_get (D := D) (ci := 4) (v := .ref (md 2)) (C := RX3) (T := TX3) (N := 19) hx hb hts hinRX3 hown hK hP 0 rfl rfl 3 (by decide) (hts (.fieldLink RX3 13 "LicenceKeeperModel" "host" "[I") (by decide +kernel)) (fun _ h9 => h9) rfl dX3_move_27 ?_
    refine lv_iload_n hx hb dX3_move_30 rfl (lv_at hl 2 rfl) ?_
    refine lv_iload_n hx hb dX3_move_31 rfl (lv_at hl 3 rfl) ?_
    obtain ⟨hi_32, e⟩ := kv_G_e e hRz
    refine kv_iast hx hb hK hP hD hS 2 0 (fun g_32 => (kv_mw ci md r_4 nw co g_32 ve la pr rg rp rm rc re ro rl cn tn tk sp ba)) hi_32 dX3_move_32 rfl rfl (fun _ => rfl) (fun g_32 H locs eg_32 hP hD hS => ?_)
    have e := kv_T_e e eg_32
    refine lv_iload_n hx hb dX3_move_33 rfl (lv_at hl 0 rfl) ?_
    rw [hQ]
    exact W.iret (v := y_24) hx hb hr (fun t ht hW => ⟨⟨y_24, (r_4, g_32), rfl, e, ⟨by rw [ht]; exact hP, by rw [hAe]; exact hD⟩⟩, hS.F ht⟩) hS.2.2 dX3_move_34
  · have e := e.trans (if_neg c_14)
    refine lv_iconst (v := 0) hx hb dX3_move_17 (by decide) ?_
    rw [hQ]
    exact W.iret (v := 0) hx hb hr (fun t ht hW => ⟨⟨0, (r_4, ho), rfl, e, ⟨by rw [ht]; exact hP, by rw [hAe]; exact hD⟩⟩, hS.F ht⟩) hS.2.2 dX3_move_18

def pf_X3_find_19 (la : Nat → Int32) (p0 : Int32) (p1 : Int32) (p2 : Int32)   (th : Int32) (ve : Nat → Int32) : Option (Int32 × Int32 × (Nat → Int32)) :=
  kv_q2 (pf_X3_fails 1 th) (fun r_21 u_21 => some (r_21, u_21, ve))
def pf_X3_find (la : Nat → Int32) (p0 : Int32) (p1 : Int32) (p2 : Int32) (th : Int32) (ve : Nat → Int32) : Option (Int32 × Int32 × (Nat → Int32)) :=
  kv_q1 (pf_X3_isMachine p0) (fun r_6 => if r_6 = 0 then pf_X3_find_19 la p0 p1 p2 0 ve else kv_q1 (pf_X3_isProduct p1) (fun r_13 => if r_13 = 0 then pf_X3_find_19 la p0 p1 p2 0 ve else kv_G p1 4 (kv_T (la p1.toNatClampNeg) (fun y_32 => kv_q1 (pf_X3_in p2 0 y_32) (fun r_33 => if r_33 = 0 then kv_q2 (pf_X3_fails 2 0) (fun r_41 u_41 => some (r_41, u_41, ve)) else kv_G ((4 * p0) + p1) 32 (kv_T (ve ((4 * p0) + p1).toNatClampNeg) (fun y_54 => kv_G ((4 * p0) + p1) 32 (kv_T (upd ve ((4 * p0) + p1).toNatClampNeg p2) (fun g_67 => some (y_54, 0, g_67))))))))))
abbrev rmX3_find : Room := { frames := 2, cells := 0, slots := 0, locals := 42 }
set_option maxHeartbeats 4000000 in
set_option maxRecDepth 100000 in
theorem c_X3_find (l : Launch) (D : va_G) (ci md : Nat → Nat) (th : Int32) (nw : Int32) (co : Nat → Int32) (ho : Nat → Int32) (ve : Nat → Int32) (la : Nat → Int32) (pr : Nat → Int32) (rg : Int32) (rp : Nat → Int32) (rm : Nat → Int32) (rc : Nat → Int32) (re : Nat → Int32) (ro : Nat → Int32) (rl : Nat → Int32) (cn : Nat → Int32) (tn : Nat → Int32) (tk : Nat → Int32) (sp : Nat → Int32) (ba : Int32) (p0 : Int32) (p1 : Int32) (p2 : Int32)  (hRn : pf_X3_find la p0 p1 p2 th ve ≠ none) (sz : Nat) : Met l yX3_find wsX3_find rmX3_find (va_Pc [.ref (md 0), .int p0, .int p1, .int p2] (kv_pre D ci (kv_mw ci md th nw co ho ve la pr rg rp rm rc re ro rl cn tn tk sp ba) sz)) (va_Qi (fun (r : Int32) (u : Int32 × (Nat → Int32)) => pf_X3_find la p0 p1 p2 th ve = some (r, u)) (fun u t => kv_post D (kv_mw ci md th nw co ho ve la pr rg rp rm rc re ro rl cn tn tk sp ba) sz (kv_mw ci md u.1 nw co ho u.2 la pr rg rp rm rc re ro rl cn tn tk sp ba) t) (va_A (kv_mw ci md th nw co ho ve la pr rg rp rm rc re ro rl cn tn tk sp ba) sz)) 0 0 (va_A (kv_mw ci md th nw co ho ve la pr rg rp rm rc re ro rl cn tn tk sp ba) sz) := by
  refine Met.ofW (cc := cX3_find) (maxL := 5) (ret := (some .int)) (by decide) rfl ?_
  intro p en s m args below meth c s₁ B hml hv
  obtain ⟨hv0, hsz, hP, hK, hD0⟩ := hv
  have hx := B.exec
  have hb := B.bytes
  have hr := B.returns
  have hts := atoms_spec (ws := wsX3_find) B.pre
  have hown : s.vm.findClass RX3 = some m.cls := findClass_of_methodNamed B.named
  have hlocks := B.notSynchronized
  subst hsz
  have hD := hD0.self (sz := s.heap.size)
  generalize hAe : va_A (kv_mw ci md th nw co ho ve la pr rg rp rm rc re ro rl cn tn tk sp ba) s.heap.size = A at hD ⊢
  have hA : ∀ q : Nat, s.heap.size ≤ q → A q := fun q h => by rw [← hAe]; exact Or.inr h
  have hS : va_S A s.heap s.heap [] := va_S.rf
  have hP : va_P D vwCl (kv_mw ci md th nw co ho ve la pr rg rp rm rc re ro rl cn tn tk sp ba) s.heap := hP
  have hinRX3 : ∀ w ∈ u_ws RX3 TX3 19, w ∈ wsX3_find := by decide +kernel
  generalize hRd : pf_X3_find la p0 p1 p2 th ve = Rz at hRn
  have hRz := hRn
  refine kv_Q (fun Q hQ => ?_)
  refine W.eq (show entryFrame m args 5 = _ from by rw [hv0, lg_entry_eq]) ?_
  have hl := lv_entry ([.ref (md 0), .int p0, .int p1, .int p2]) (n := 5) (Nat.le_of_ble_eq_true rfl)
  generalize (lg_sl ([.ref (md 0), .int p0, .int p1, .int p2]) ++ List.replicate (5 - (lg_sl ([.ref (md 0), .int p0, .int p1, .int p2])).length) Slot.unset).toArray = ls at hl ⊢
  have hl : lv_has ls 5 [(0, .ref (md 0)), (1, .int p0), (2, .int p1), (3, .int p2)] := hl
  have e : Rz = pf_X3_find la p0 p1 p2 th ve := hRd.symm
  rw [pf_X3_find] at e
  have hb_19 : ∀ (th : Int32) (ve : Nat → Int32) (H : Heap) (locs : List Loc) (ls : Array Slot), va_P D vwCl (kv_mw ci md th nw co ho ve la pr rg rp rm rc re ro rl cn tn tk sp ba) H → va_D A (kv_mw ci md th nw co ho ve la pr rg rp rm rc re ro rl cn tn tk sp ba) → va_S A s.heap H locs → lv_has ls 5 [(0, .ref (md 0))] → Rz = pf_X3_find_19 la p0 p1 p2  th ve → W p l en rmX3_find s m args below meth c H locs 0 0 Q (F0 m 19 ls []) := by
    intro th ve H locs ls  hP hD hS hl e
    rw [pf_X3_find_19] at e
    refine lv_aload_n hx hb dX3_find_19 rfl (lv_at hl 0 rfl) ?_
    refine lv_iconst (v := 1) hx hb dX3_find_20 (by decide) ?_
    refine kv_calli (va_runV (As := [.int 1]) (rest := []) ⟨hx, hb, hml, hown, hts⟩ (c_X3_fails l D ci md th nw co ho ve la pr rg rp rm rc re ro rl cn tn tk sp ba 1 (kv_q2_n e hRz) H.size) (cwV 1 hts gX3_find_X3_fails rfl rfl rfl (by decide +kernel) ⟨Nat.le_of_ble_eq_true rfl, Nat.le_of_ble_eq_true rfl⟩) (kv_preV hK hP hD (r := (RX3, TX3, 19)) (q0 := 0) (k := 4) rfl rfl rfl) rfl rfl hl.1 rfl (lv_room (Nat.le_of_ble_eq_true rfl)) dX3_find_21 ⟨Nat.le_of_ble_eq_true rfl, Nat.le_of_ble_eq_true rfl⟩) hD hS hA (fun r_21 u_21 H locs hw_21 hP hD hS => ?_)
    have e := kv_q2_e e hw_21
    have hP : va_P D vwCl (kv_mw ci md u_21 nw co ho ve la pr rg rp rm rc re ro rl cn tn tk sp ba) H := hP
    have hD : va_D A (kv_mw ci md u_21 nw co ho ve la pr rg rp rm rc re ro rl cn tn tk sp ba) := hD
    rw [hQ]
    exact W.iret (v := r_21) hx hb hr (fun t ht hW => ⟨⟨r_21, (u_21, ve), rfl, e, ⟨by rw [ht]; exact hP, by rw [hAe]; exact hD⟩⟩, hS.F ht⟩) hS.2.2 dX3_find_24
  refine lv_aload_n hx hb dX3_find_0 rfl (lv_at hl 0 rfl) ?_
  refine lv_iconst (v := 0) hx hb dX3_find_1 (by decide) ?_
  refine va_put (D := D) (ci := 4) (v := .int 0) (ty := .int) (C := RX3) (T := TX3) (N := 19) hx hb hts hinRX3 tyX3 tyX3_ok nmX3 hown hK hP hD hS 0 rfl rfl 0 (by decide) (hts (.fieldLink RX3 56 "LicenceKeeperModel" "thrown" "I") (by decide +kernel)) (fun _ h9 => h9) rfl (by decide +kernel) rfl rfl (Nat.le_of_ble_eq_true rfl) dX3_find_2 (fun H locs hP hD hS => ?_)
  have hP : va_P D vwCl (kv_mw ci md 0 nw co ho ve la pr rg rp rm rc re ro rl cn tn tk sp ba) H := hP
  have hD : va_D A (kv_mw ci md 0 nw co ho ve la pr rg rp rm rc re ro rl cn tn tk sp ba) := hD
  refine lv_iload_n hx hb dX3_find_5 rfl (lv_at hl 1 rfl) ?_
  refine kv_calli (va_runS (As := [.int p0]) (rest := []) ⟨hx, hb, hml, hown, hts⟩ (c_X3_isMachine l D ci md 0 nw co ho ve la pr rg rp rm rc re ro rl cn tn tk sp ba p0 (kv_q1_n e hRz) H.size) (va_cwS 1 hts gX3_find_X3_isMachine rfl rfl rfl (by decide +kernel) ⟨Nat.le_of_ble_eq_true rfl, Nat.le_of_ble_eq_true rfl⟩) (kv_preS hK hP hD) rfl rfl hl.1 rfl (lv_room (Nat.le_of_ble_eq_true rfl)) dX3_find_6 ⟨Nat.le_of_ble_eq_true rfl, Nat.le_of_ble_eq_true rfl⟩) hD hS hA (fun r_6 u_6 H locs hw_6 hP hD hS => ?_)
  have e := kv_q1_e e hw_6
  refine lv_if_eq (tgt := 19) hx hb dX3_find_9 (by decide) (fun c_9 => ?_) (fun c_9 => ?_)
  · have e := e.trans (if_pos c_9)
    exact hb_19 0 ve  _ _ _ hP hD hS (lv_sub hl [0] rfl) e
  · have e := e.trans (if_neg c_9)
    refine lv_iload_n hx hb dX3_find_12 rfl (lv_at hl 2 rfl) ?_
    refine kv_calli (va_runS (As := [.int p1]) (rest := []) ⟨hx, hb, hml, hown, hts⟩ (c_X3_isProduct l D ci md 0 nw co ho ve la pr rg rp rm rc re ro rl cn tn tk sp ba p1 (kv_q1_n e hRz) H.size) (va_cwS 1 hts gX3_find_X3_isProduct rfl rfl rfl (by decide +kernel) ⟨Nat.le_of_ble_eq_true rfl, Nat.le_of_ble_eq_true rfl⟩) (kv_preS hK hP hD) rfl rfl hl.1 rfl (lv_room (Nat.le_of_ble_eq_true rfl)) dX3_find_13 ⟨Nat.le_of_ble_eq_true rfl, Nat.le_of_ble_eq_true rfl⟩) hD hS hA (fun r_13 u_13 H locs hw_13 hP hD hS => ?_)
    have e := kv_q1_e e hw_13
    refine lv_if_ne (tgt := 25) hx hb dX3_find_16 (by decide) (fun c_16 => ?_) (fun c_16 => ?_)
    · have e := e.trans (if_neg c_16)
      refine lv_iload_n hx hb dX3_find_25 rfl (lv_at hl 3 rfl) ?_
      refine lv_iconst (v := 0) hx hb dX3_find_26 (by decide) ?_
      refine lv_aload_n hx hb dX3_find_27 rfl (lv_at hl 0 rfl) ?_
      refine va_get (D := D) (ci := 4) (v := .ref (md 4)) (C := RX3) (T := TX3) (N := 19) hx hb hts hinRX3 hown hK hP 0 rfl rfl 5 (by decide) (hts (.fieldLink RX3 19 "LicenceKeeperModel" "latest" "[I") (by decide +kernel)) (fun _ h9 => h9) rfl dX3_find_28 ?_
      refine lv_iload_n hx hb dX3_find_31 rfl (lv_at hl 2 rfl) ?_
      obtain ⟨hi_32, e⟩ := kv_G_e e hRz
      refine kv_iald hx hb hK hP 4 0 hi_32 dX3_find_32 rfl rfl (fun y_32 ey_32 => ?_)
      have e := kv_T_e e ey_32
      refine kv_calli (va_runS (As := [.int p2, .int 0, .int y_32]) (rest := []) ⟨hx, hb, hml, hown, hts⟩ (c_X3_in l D ci md 0 nw co ho ve la pr rg rp rm rc re ro rl cn tn tk sp ba p2 0 y_32 (kv_q1_n e hRz) H.size) (va_cwS 3 hts gX3_find_X3_in rfl rfl rfl (by decide +kernel) ⟨Nat.le_of_ble_eq_true rfl, Nat.le_of_ble_eq_true rfl⟩) (kv_preS hK hP hD) rfl rfl hl.1 rfl (lv_room (Nat.le_of_ble_eq_true rfl)) dX3_find_33 ⟨Nat.le_of_ble_eq_true rfl, Nat.le_of_ble_eq_true rfl⟩) hD hS hA (fun r_33 u_33 H locs hw_33 hP hD hS => ?_)
      have e := kv_q1_e e hw_33
      refine lv_if_ne (tgt := 45) hx hb dX3_find_36 (by decide) (fun c_36 => ?_) (fun c_36 => ?_)
      · have e := e.trans (if_neg c_36)
        refine lv_aload_n hx hb dX3_find_45 rfl (lv_at hl 0 rfl) ?_
        refine va_get (D := D) (ci := 4) (v := .ref (md 3)) (C := RX3) (T := TX3) (N := 19) hx hb hts hinRX3 hown hK hP 0 rfl rfl 4 (by decide) (hts (.fieldLink RX3 16 "LicenceKeeperModel" "version" "[I") (by decide +kernel)) (fun _ h9 => h9) rfl dX3_find_46 ?_
        refine lv_iconst (v := 4) hx hb dX3_find_49 (by decide) ?_
        refine lv_iload_n hx hb dX3_find_50 rfl (lv_at hl 1 rfl) ?_
        refine lv_imul hx hb dX3_find_51 ?_
        refine lv_iload_n hx hb dX3_find_52 rfl (lv_at hl 2 rfl) ?_
        refine lv_iadd hx hb dX3_find_53 ?_
        obtain ⟨hi_54, e⟩ := kv_G_e e hRz
        refine kv_iald hx hb hK hP 3 0 hi_54 dX3_find_54 rfl rfl (fun y_54 ey_54 => ?_)
        have e := kv_T_e e ey_54
        refine lv_istore (lv' := [(4, .int y_54), (0, .ref (md 0)), (1, .int p0), (2, .int p1), (3, .int p2)]) hx hb dX3_find_55 hl (by decide) rfl (fun ls hl => ?_)
        refine lv_aload_n hx hb dX3_find_57 rfl (lv_at hl 1 rfl) ?_
        refine va_get (D := D) (ci := 4) (v := .ref (md 3)) (C := RX3) (T := TX3) (N := 19) hx hb hts hinRX3 hown hK hP 0 rfl rfl 4 (by decide) (hts (.fieldLink RX3 16 "LicenceKeeperModel" "version" "[I") (by decide +kernel)) (fun _ h9 => h9) rfl dX3_find_58 ?_
        refine lv_iconst (v := 4) hx hb dX3_find_61 (by decide) ?_
        refine lv_iload_n hx hb dX3_find_62 rfl (lv_at hl 2 rfl) ?_
        refine lv_imul hx hb dX3_find_63 ?_
        refine lv_iload_n hx hb dX3_find_64 rfl (lv_at hl 3 rfl) ?_
        refine lv_iadd hx hb dX3_find_65 ?_
        refine lv_iload_n hx hb dX3_find_66 rfl (lv_at hl 4 rfl) ?_
        obtain ⟨hi_67, e⟩ := kv_G_e e hRz
        refine kv_iast hx hb hK hP hD hS 3 0 (fun g_67 => (kv_mw ci md 0 nw co ho g_67 la pr rg rp rm rc re ro rl cn tn tk sp ba)) hi_67 dX3_find_67 rfl rfl (fun _ => rfl) (fun g_67 H locs eg_67 hP hD hS => ?_)
        have e := kv_T_e e eg_67
        refine lv_iload hx hb dX3_find_68 (lv_at hl 0 rfl) ?_
        rw [hQ]
        exact W.iret (v := y_54) hx hb hr (fun t ht hW => ⟨⟨y_54, (0, g_67), rfl, e, ⟨by rw [ht]; exact hP, by rw [hAe]; exact hD⟩⟩, hS.F ht⟩) hS.2.2 dX3_find_70
      · have e := e.trans (if_pos c_36)
        refine lv_aload_n hx hb dX3_find_39 rfl (lv_at hl 0 rfl) ?_
        refine lv_iconst (v := 2) hx hb dX3_find_40 (by decide) ?_
        refine kv_calli (va_runV (As := [.int 2]) (rest := []) ⟨hx, hb, hml, hown, hts⟩ (c_X3_fails l D ci md 0 nw co ho ve la pr rg rp rm rc re ro rl cn tn tk sp ba 2 (kv_q2_n e hRz) H.size) (cwV 1 hts gX3_find_X3_fails rfl rfl rfl (by decide +kernel) ⟨Nat.le_of_ble_eq_true rfl, Nat.le_of_ble_eq_true rfl⟩) (kv_preV hK hP hD (r := (RX3, TX3, 19)) (q0 := 0) (k := 4) rfl rfl rfl) rfl rfl hl.1 rfl (lv_room (Nat.le_of_ble_eq_true rfl)) dX3_find_41 ⟨Nat.le_of_ble_eq_true rfl, Nat.le_of_ble_eq_true rfl⟩) hD hS hA (fun r_41 u_41 H locs hw_41 hP hD hS => ?_)
        have e := kv_q2_e e hw_41
        have hP : va_P D vwCl (kv_mw ci md u_41 nw co ho ve la pr rg rp rm rc re ro rl cn tn tk sp ba) H := hP
        have hD : va_D A (kv_mw ci md u_41 nw co ho ve la pr rg rp rm rc re ro rl cn tn tk sp ba) := hD
        rw [hQ]
        exact W.iret (v := r_41) hx hb hr (fun t ht hW => ⟨⟨r_41, (u_41, ve), rfl, e, ⟨by rw [ht]; exact hP, by rw [hAe]; exact hD⟩⟩, hS.F ht⟩) hS.2.2 dX3_find_44
    · have e := e.trans (if_pos c_16)
      exact hb_19 0 ve  _ _ _ hP hD hS (lv_sub hl [0] rfl) e

def pf_X3_setPrice (p0 : Int32) (p1 : Int32) (th : Int32) (pr : Nat → Int32) : Option (Int32 × Int32 × (Nat → Int32)) :=
  kv_q1 (pf_X3_isProduct p0) (fun r_6 => if r_6 = 0 then kv_q2 (pf_X3_fails 1 0) (fun r_14 u_14 => some (r_14, u_14, pr)) else kv_q1 (pf_X3_in p1 0 1000) (fun r_23 => if r_23 = 0 then kv_q2 (pf_X3_fails 2 0) (fun r_31 u_31 => some (r_31, u_31, pr)) else kv_G p0 4 (kv_T (pr p0.toNatClampNeg) (fun y_40 => kv_G p0 4 (kv_T (upd pr p0.toNatClampNeg p1) (fun g_48 => some (y_40, 0, g_48)))))))
abbrev rmX3_setPrice : Room := { frames := 2, cells := 0, slots := 0, locals := 42 }
set_option maxHeartbeats 4000000 in
set_option maxRecDepth 100000 in
theorem c_X3_setPrice (l : Launch) (D : va_G) (ci md : Nat → Nat) (th : Int32) (nw : Int32) (co : Nat → Int32) (ho : Nat → Int32) (ve : Nat → Int32) (la : Nat → Int32) (pr : Nat → Int32) (rg : Int32) (rp : Nat → Int32) (rm : Nat → Int32) (rc : Nat → Int32) (re : Nat → Int32) (ro : Nat → Int32) (rl : Nat → Int32) (cn : Nat → Int32) (tn : Nat → Int32) (tk : Nat → Int32) (sp : Nat → Int32) (ba : Int32) (p0 : Int32) (p1 : Int32)  (hRn : pf_X3_setPrice p0 p1 th pr ≠ none) (sz : Nat) : Met l yX3_setPrice wsX3_setPrice rmX3_setPrice (va_Pc [.ref (md 0), .int p0, .int p1] (kv_pre D ci (kv_mw ci md th nw co ho ve la pr rg rp rm rc re ro rl cn tn tk sp ba) sz)) (va_Qi (fun (r : Int32) (u : Int32 × (Nat → Int32)) => pf_X3_setPrice p0 p1 th pr = some (r, u)) (fun u t => kv_post D (kv_mw ci md th nw co ho ve la pr rg rp rm rc re ro rl cn tn tk sp ba) sz (kv_mw ci md u.1 nw co ho ve la u.2 rg rp rm rc re ro rl cn tn tk sp ba) t) (va_A (kv_mw ci md th nw co ho ve la pr rg rp rm rc re ro rl cn tn tk sp ba) sz)) 0 0 (va_A (kv_mw ci md th nw co ho ve la pr rg rp rm rc re ro rl cn tn tk sp ba) sz) := by
  refine Met.ofW (cc := cX3_setPrice) (maxL := 4) (ret := (some .int)) (by decide) rfl ?_
  intro p en s m args below meth c s₁ B hml hv
  obtain ⟨hv0, hsz, hP, hK, hD0⟩ := hv
  have hx := B.exec
  have hb := B.bytes
  have hr := B.returns
  have hts := atoms_spec (ws := wsX3_setPrice) B.pre
  have hown : s.vm.findClass RX3 = some m.cls := findClass_of_methodNamed B.named
  have hlocks := B.notSynchronized
  subst hsz
  have hD := hD0.self (sz := s.heap.size)
  generalize hAe : va_A (kv_mw ci md th nw co ho ve la pr rg rp rm rc re ro rl cn tn tk sp ba) s.heap.size = A at hD ⊢
  have hA : ∀ q : Nat, s.heap.size ≤ q → A q := fun q h => by rw [← hAe]; exact Or.inr h
  have hS : va_S A s.heap s.heap [] := va_S.rf
  have hP : va_P D vwCl (kv_mw ci md th nw co ho ve la pr rg rp rm rc re ro rl cn tn tk sp ba) s.heap := hP
  have hinRX3 : ∀ w ∈ u_ws RX3 TX3 19, w ∈ wsX3_setPrice := by decide +kernel
  generalize hRd : pf_X3_setPrice p0 p1 th pr = Rz at hRn
  have hRz := hRn
  refine kv_Q (fun Q hQ => ?_)
  refine W.eq (show entryFrame m args 4 = _ from by rw [hv0, lg_entry_eq]) ?_
  have hl := lv_entry ([.ref (md 0), .int p0, .int p1]) (n := 4) (Nat.le_of_ble_eq_true rfl)
  generalize (lg_sl ([.ref (md 0), .int p0, .int p1]) ++ List.replicate (4 - (lg_sl ([.ref (md 0), .int p0, .int p1])).length) Slot.unset).toArray = ls at hl ⊢
  have hl : lv_has ls 4 [(0, .ref (md 0)), (1, .int p0), (2, .int p1)] := hl
  have e : Rz = pf_X3_setPrice p0 p1 th pr := hRd.symm
  rw [pf_X3_setPrice] at e
  refine lv_aload_n hx hb dX3_setPrice_0 rfl (lv_at hl 0 rfl) ?_
  refine lv_iconst (v := 0) hx hb dX3_setPrice_1 (by decide) ?_
  refine va_put (D := D) (ci := 4) (v := .int 0) (ty := .int) (C := RX3) (T := TX3) (N := 19) hx hb hts hinRX3 tyX3 tyX3_ok nmX3 hown hK hP hD hS 0 rfl rfl 0 (by decide) (hts (.fieldLink RX3 56 "LicenceKeeperModel" "thrown" "I") (by decide +kernel)) (fun _ h9 => h9) rfl (by decide +kernel) rfl rfl (Nat.le_of_ble_eq_true rfl) dX3_setPrice_2 (fun H locs hP hD hS => ?_)
  have hP : va_P D vwCl (kv_mw ci md 0 nw co ho ve la pr rg rp rm rc re ro rl cn tn tk sp ba) H := hP
  have hD : va_D A (kv_mw ci md 0 nw co ho ve la pr rg rp rm rc re ro rl cn tn tk sp ba) := hD
  refine lv_iload_n hx hb dX3_setPrice_5 rfl (lv_at hl 1 rfl) ?_
  refine kv_calli (va_runS (As := [.int p0]) (rest := []) ⟨hx, hb, hml, hown, hts⟩ (c_X3_isProduct l D ci md 0 nw co ho ve la pr rg rp rm rc re ro rl cn tn tk sp ba p0 (kv_q1_n e hRz) H.size) (va_cwS 1 hts gX3_setPrice_X3_isProduct rfl rfl rfl (by decide +kernel) ⟨Nat.le_of_ble_eq_true rfl, Nat.le_of_ble_eq_true rfl⟩) (kv_preS hK hP hD) rfl rfl hl.1 rfl (lv_room (Nat.le_of_ble_eq_true rfl)) dX3_setPrice_6 ⟨Nat.le_of_ble_eq_true rfl, Nat.le_of_ble_eq_true rfl⟩) hD hS hA (fun r_6 u_6 H locs hw_6 hP hD hS => ?_)
  have e := kv_q1_e e hw_6
  refine lv_if_ne (tgt := 18) hx hb dX3_setPrice_9 (by decide) (fun c_9 => ?_) (fun c_9 => ?_)
  · have e := e.trans (if_neg c_9)
    refine lv_iload_n hx hb dX3_setPrice_18 rfl (lv_at hl 2 rfl) ?_
    refine lv_iconst (v := 0) hx hb dX3_setPrice_19 (by decide) ?_
    refine lv_sipush (v := 1000) hx hb dX3_setPrice_20 (by decide) ?_
    refine kv_calli (va_runS (As := [.int p1, .int 0, .int 1000]) (rest := []) ⟨hx, hb, hml, hown, hts⟩ (c_X3_in l D ci md 0 nw co ho ve la pr rg rp rm rc re ro rl cn tn tk sp ba p1 0 1000 (kv_q1_n e hRz) H.size) (va_cwS 3 hts gX3_setPrice_X3_in rfl rfl rfl (by decide +kernel) ⟨Nat.le_of_ble_eq_true rfl, Nat.le_of_ble_eq_true rfl⟩) (kv_preS hK hP hD) rfl rfl hl.1 rfl (lv_room (Nat.le_of_ble_eq_true rfl)) dX3_setPrice_23 ⟨Nat.le_of_ble_eq_true rfl, Nat.le_of_ble_eq_true rfl⟩) hD hS hA (fun r_23 u_23 H locs hw_23 hP hD hS => ?_)
    have e := kv_q1_e e hw_23
    refine lv_if_ne (tgt := 35) hx hb dX3_setPrice_26 (by decide) (fun c_26 => ?_) (fun c_26 => ?_)
    · have e := e.trans (if_neg c_26)
      refine lv_aload_n hx hb dX3_setPrice_35 rfl (lv_at hl 0 rfl) ?_
      refine va_get (D := D) (ci := 4) (v := .ref (md 5)) (C := RX3) (T := TX3) (N := 19) hx hb hts hinRX3 hown hK hP 0 rfl rfl 6 (by decide) (hts (.fieldLink RX3 22 "LicenceKeeperModel" "price" "[I") (by decide +kernel)) (fun _ h9 => h9) rfl dX3_setPrice_36 ?_
      refine lv_iload_n hx hb dX3_setPrice_39 rfl (lv_at hl 1 rfl) ?_
      obtain ⟨hi_40, e⟩ := kv_G_e e hRz
      refine kv_iald hx hb hK hP 5 0 hi_40 dX3_setPrice_40 rfl rfl (fun y_40 ey_40 => ?_)
      have e := kv_T_e e ey_40
      refine lv_istore_n (lv' := [(3, .int y_40), (0, .ref (md 0)), (1, .int p0), (2, .int p1)]) hx hb dX3_setPrice_41 rfl hl (by decide) rfl (fun ls hl => ?_)
      refine lv_aload_n hx hb dX3_setPrice_42 rfl (lv_at hl 1 rfl) ?_
      refine va_get (D := D) (ci := 4) (v := .ref (md 5)) (C := RX3) (T := TX3) (N := 19) hx hb hts hinRX3 hown hK hP 0 rfl rfl 6 (by decide) (hts (.fieldLink RX3 22 "LicenceKeeperModel" "price" "[I") (by decide +kernel)) (fun _ h9 => h9) rfl dX3_setPrice_43 ?_
      refine lv_iload_n hx hb dX3_setPrice_46 rfl (lv_at hl 2 rfl) ?_
      refine lv_iload_n hx hb dX3_setPrice_47 rfl (lv_at hl 3 rfl) ?_
      obtain ⟨hi_48, e⟩ := kv_G_e e hRz
      refine kv_iast hx hb hK hP hD hS 5 0 (fun g_48 => (kv_mw ci md 0 nw co ho ve la g_48 rg rp rm rc re ro rl cn tn tk sp ba)) hi_48 dX3_setPrice_48 rfl rfl (fun _ => rfl) (fun g_48 H locs eg_48 hP hD hS => ?_)
      have e := kv_T_e e eg_48
      refine lv_iload_n hx hb dX3_setPrice_49 rfl (lv_at hl 0 rfl) ?_
      rw [hQ]
      exact W.iret (v := y_40) hx hb hr (fun t ht hW => ⟨⟨y_40, (0, g_48), rfl, e, ⟨by rw [ht]; exact hP, by rw [hAe]; exact hD⟩⟩, hS.F ht⟩) hS.2.2 dX3_setPrice_50
    · have e := e.trans (if_pos c_26)
      refine lv_aload_n hx hb dX3_setPrice_29 rfl (lv_at hl 0 rfl) ?_
      refine lv_iconst (v := 2) hx hb dX3_setPrice_30 (by decide) ?_
      refine kv_calli (va_runV (As := [.int 2]) (rest := []) ⟨hx, hb, hml, hown, hts⟩ (c_X3_fails l D ci md 0 nw co ho ve la pr rg rp rm rc re ro rl cn tn tk sp ba 2 (kv_q2_n e hRz) H.size) (cwV 1 hts gX3_setPrice_X3_fails rfl rfl rfl (by decide +kernel) ⟨Nat.le_of_ble_eq_true rfl, Nat.le_of_ble_eq_true rfl⟩) (kv_preV hK hP hD (r := (RX3, TX3, 19)) (q0 := 0) (k := 4) rfl rfl rfl) rfl rfl hl.1 rfl (lv_room (Nat.le_of_ble_eq_true rfl)) dX3_setPrice_31 ⟨Nat.le_of_ble_eq_true rfl, Nat.le_of_ble_eq_true rfl⟩) hD hS hA (fun r_31 u_31 H locs hw_31 hP hD hS => ?_)
      have e := kv_q2_e e hw_31
      have hP : va_P D vwCl (kv_mw ci md u_31 nw co ho ve la pr rg rp rm rc re ro rl cn tn tk sp ba) H := hP
      have hD : va_D A (kv_mw ci md u_31 nw co ho ve la pr rg rp rm rc re ro rl cn tn tk sp ba) := hD
      rw [hQ]
      exact W.iret (v := r_31) hx hb hr (fun t ht hW => ⟨⟨r_31, (u_31, pr), rfl, e, ⟨by rw [ht]; exact hP, by rw [hAe]; exact hD⟩⟩, hS.F ht⟩) hS.2.2 dX3_setPrice_34
  · have e := e.trans (if_pos c_9)
    refine lv_aload_n hx hb dX3_setPrice_12 rfl (lv_at hl 0 rfl) ?_
    refine lv_iconst (v := 1) hx hb dX3_setPrice_13 (by decide) ?_
    refine kv_calli (va_runV (As := [.int 1]) (rest := []) ⟨hx, hb, hml, hown, hts⟩ (c_X3_fails l D ci md 0 nw co ho ve la pr rg rp rm rc re ro rl cn tn tk sp ba 1 (kv_q2_n e hRz) H.size) (cwV 1 hts gX3_setPrice_X3_fails rfl rfl rfl (by decide +kernel) ⟨Nat.le_of_ble_eq_true rfl, Nat.le_of_ble_eq_true rfl⟩) (kv_preV hK hP hD (r := (RX3, TX3, 19)) (q0 := 0) (k := 4) rfl rfl rfl) rfl rfl hl.1 rfl (lv_room (Nat.le_of_ble_eq_true rfl)) dX3_setPrice_14 ⟨Nat.le_of_ble_eq_true rfl, Nat.le_of_ble_eq_true rfl⟩) hD hS hA (fun r_14 u_14 H locs hw_14 hP hD hS => ?_)
    have e := kv_q2_e e hw_14
    have hP : va_P D vwCl (kv_mw ci md u_14 nw co ho ve la pr rg rp rm rc re ro rl cn tn tk sp ba) H := hP
    have hD : va_D A (kv_mw ci md u_14 nw co ho ve la pr rg rp rm rc re ro rl cn tn tk sp ba) := hD
    rw [hQ]
    exact W.iret (v := r_14) hx hb hr (fun t ht hW => ⟨⟨r_14, (u_14, pr), rfl, e, ⟨by rw [ht]; exact hP, by rw [hAe]; exact hD⟩⟩, hS.F ht⟩) hS.2.2 dX3_setPrice_17
