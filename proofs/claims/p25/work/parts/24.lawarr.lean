def pf_L_low (p0 : Int32) (p1 : Int32)  : Option (Int32) :=
  kv_Z p1 (some (((p0 &&& 2147483647) - (p0 &&& 2147483647) / p1 * p1)))
abbrev rmL_low : Room := { frames := 0, cells := 0, slots := 0, locals := 0 }
set_option maxHeartbeats 4000000 in
set_option maxRecDepth 100000 in
theorem c_L_low (l : Launch) (D : va_G) (ci la : Nat → Nat) (lm : Nat → Int32) (lp : Nat → Int32) (lr : Nat → Int32) (lq : Nat → Int32) (p0 : Int32) (p1 : Int32)  (hRn : pf_L_low p0 p1 ≠ none) (sz : Nat) : Met l yL_low wsL_low rmL_low (va_Pc [.int p0, .int p1] (kv_pre D ci (kv_lw ci la lm lp lr lq) sz)) (va_Qi (fun (r : Int32) (u : Unit) => pf_L_low p0 p1 = some (r)) (fun u t => kv_post D (kv_lw ci la lm lp lr lq) sz (kv_lw ci la lm lp lr lq) t) (va_A (kv_lw ci la lm lp lr lq) sz)) 0 0 (va_A (kv_lw ci la lm lp lr lq) sz) := by
  refine Met.ofW (cc := cL_low) (maxL := 2) (ret := (some .int)) (by decide) rfl ?_
  intro p en s m args below meth c s₁ B hml hv
  obtain ⟨hv0, hsz, hP, hK, hD0⟩ := hv
  have hx := B.exec
  have hb := B.bytes
  have hr := B.returns
  have hts := atoms_spec (ws := wsL_low) B.pre
  have hown : s.vm.findClass RL = some m.cls := findClass_of_methodNamed B.named
  have hlocks := B.notSynchronized
  subst hsz
  have hD := hD0.self (sz := s.heap.size)
  generalize hAe : va_A (kv_lw ci la lm lp lr lq) s.heap.size = A at hD ⊢
  have hA : ∀ q : Nat, s.heap.size ≤ q → A q := fun q h => by rw [← hAe]; exact Or.inr h
  have hS : va_S A s.heap s.heap [] := va_S.rf
  have hP : va_P D vwCl (kv_lw ci la lm lp lr lq) s.heap := hP
  generalize hRd : pf_L_low p0 p1 = Rz at hRn
  have hRz := hRn
  refine kv_Q (fun Q hQ => ?_)
  refine W.eq (show entryFrame m args 2 = _ from by rw [hv0, lg_entry_eq]) ?_
  have hl := lv_entry ([.int p0, .int p1]) (n := 2) (Nat.le_of_ble_eq_true rfl)
  generalize (lg_sl ([.int p0, .int p1]) ++ List.replicate (2 - (lg_sl ([.int p0, .int p1])).length) Slot.unset).toArray = ls at hl ⊢
  have hl : lv_has ls 2 [(0, .int p0), (1, .int p1)] := hl
  have e : Rz = pf_L_low p0 p1 := hRd.symm
  rw [pf_L_low] at e
  refine lv_iload_n hx hb dL_low_0 rfl (lv_at hl 0 rfl) ?_
  refine lv_ldc (v := 2147483647) hx hb hown (hts (.constant RL 9 2147483647) (by decide +kernel)) dL_low_1 ?_
  refine lv_iand hx hb dL_low_3 ?_
  refine lv_iload_n hx hb dL_low_4 rfl (lv_at hl 1 rfl) ?_
  obtain ⟨hz_5, e⟩ := kv_Z_e e hRz
  refine lv_irem hx hb dL_low_5 hz_5 ?_
  rw [hQ]
  exact W.iret (v := ((p0 &&& 2147483647) - (p0 &&& 2147483647) / p1 * p1)) hx hb hr (fun t ht hW => ⟨⟨((p0 &&& 2147483647) - (p0 &&& 2147483647) / p1 * p1), (), rfl, e, ⟨by rw [ht]; exact hP, by rw [hAe]; exact hD⟩⟩, hS.F ht⟩) hS.2.2 dL_low_6

def pf_L_host_29 (lm : Nat → Int32) (p0 : Int32) (k_4 : Int32 → Int32 → Option (Int32)) (x3 : Int32) (z0 : Int32)  : Option (Int32) :=
  k_4 z0 (x3 + 1)
def pf_L_host_4b (lm : Nat → Int32) (p0 : Int32)  (k_4 : Int32 → Int32 → Option (Int32)) (x2 : Int32) (x3 : Int32)  : Option (Int32) :=
  if 5 ≤ x3 then kv_B x2 (some (x2)) else if x2 = 0 then kv_G ((4 * x3) + 1) 20 (kv_T (lm ((4 * x3) + 1).toNatClampNeg) (fun y_19 => if y_19 = p0 then pf_L_host_29 lm p0 k_4 x3 1 else pf_L_host_29 lm p0 k_4 x3 0)) else pf_L_host_29 lm p0 k_4 x3 1
def pf_L_host_4 (lm : Nat → Int32) (p0 : Int32)  : Nat → Int32 → Int32 → Option (Int32)
  | 0, _, _ => none
  | nn + 1, x2, x3 => pf_L_host_4b lm p0  (pf_L_host_4 lm p0  nn) x2 x3
def pf_L_host (lm : Nat → Int32) (p0 : Int32)  : Option (Int32) :=
  pf_L_host_4 lm p0 kv_F 0 0
abbrev rmL_host : Room := { frames := 0, cells := 0, slots := 0, locals := 0 }
set_option maxHeartbeats 4000000 in
set_option maxRecDepth 100000 in
theorem c_L_host (l : Launch) (D : va_G) (ci la : Nat → Nat) (lm : Nat → Int32) (lp : Nat → Int32) (lr : Nat → Int32) (lq : Nat → Int32) (p0 : Int32)  (hRn : pf_L_host lm p0 ≠ none) (sz : Nat) : Met l yL_host wsL_host rmL_host (va_Pc [.int p0, .ref (la 0)] (kv_pre D ci (kv_lw ci la lm lp lr lq) sz)) (va_Qi (fun (r : Int32) (u : Unit) => pf_L_host lm p0 = some (r)) (fun u t => kv_post D (kv_lw ci la lm lp lr lq) sz (kv_lw ci la lm lp lr lq) t) (va_A (kv_lw ci la lm lp lr lq) sz)) 0 0 (va_A (kv_lw ci la lm lp lr lq) sz) := by
  refine Met.ofW (cc := cL_host) (maxL := 4) (ret := (some .boolean)) (by decide) rfl ?_
  intro p en s m args below meth c s₁ B hml hv
  obtain ⟨hv0, hsz, hP, hK, hD0⟩ := hv
  have hx := B.exec
  have hb := B.bytes
  have hr := B.returns
  have hts := atoms_spec (ws := wsL_host) B.pre
  have hown : s.vm.findClass RL = some m.cls := findClass_of_methodNamed B.named
  have hlocks := B.notSynchronized
  subst hsz
  have hD := hD0.self (sz := s.heap.size)
  generalize hAe : va_A (kv_lw ci la lm lp lr lq) s.heap.size = A at hD ⊢
  have hA : ∀ q : Nat, s.heap.size ≤ q → A q := fun q h => by rw [← hAe]; exact Or.inr h
  have hS : va_S A s.heap s.heap [] := va_S.rf
  have hP : va_P D vwCl (kv_lw ci la lm lp lr lq) s.heap := hP
  generalize hRd : pf_L_host lm p0 = Rz at hRn
  have hRz := hRn
  refine kv_Q (fun Q hQ => ?_)
  refine W.eq (show entryFrame m args 4 = _ from by rw [hv0, lg_entry_eq]) ?_
  have hl := lv_entry ([.int p0, .ref (la 0)]) (n := 4) (Nat.le_of_ble_eq_true rfl)
  generalize (lg_sl ([.int p0, .ref (la 0)]) ++ List.replicate (4 - (lg_sl ([.int p0, .ref (la 0)])).length) Slot.unset).toArray = ls at hl ⊢
  have hl : lv_has ls 4 [(0, .int p0), (1, .ref (la 0))] := hl
  have e : Rz = pf_L_host lm p0 := hRd.symm
  rw [pf_L_host] at e
  have hb_4 : ∀ (n_4 : Nat), ∀ (x2 : Int32) (x3 : Int32) (H : Heap) (locs : List Loc) (ls : Array Slot), va_P D vwCl (kv_lw ci la lm lp lr lq) H → va_D A (kv_lw ci la lm lp lr lq) → va_S A s.heap H locs → lv_has ls 4 [(0, .int p0), (1, .ref (la 0)), (2, .int x2), (3, .int x3)] → Rz = pf_L_host_4 lm p0  n_4 x2 x3 → W p l en rmL_host s m args below meth c H locs 0 0 Q (F0 m 4 ls []) := by
    intro n_4
    induction n_4 with
    | zero =>
      intro x2 x3 H locs ls  _ _ _ _ e
      exact absurd e hRz
    | succ n_4 ih_4 =>
      have hb_29 : ∀ (x3 : Int32) (z0 : Int32) (H : Heap) (locs : List Loc) (ls : Array Slot), va_P D vwCl (kv_lw ci la lm lp lr lq) H → va_D A (kv_lw ci la lm lp lr lq) → va_S A s.heap H locs → lv_has ls 4 [(0, .int p0), (1, .ref (la 0)), (3, .int x3)] → Rz = pf_L_host_29 lm p0 (pf_L_host_4 lm p0  n_4) x3 z0 → W p l en rmL_host s m args below meth c H locs 0 0 Q (F0 m 29 ls [.int z0]) := by
        intro x3 z0 H locs ls  hP hD hS hl e
        rw [pf_L_host_29] at e
        refine lv_istore_n (lv' := [(2, .int z0), (0, .int p0), (1, .ref (la 0)), (3, .int x3)]) hx hb dL_host_29 rfl hl (by decide) rfl (fun ls hl => ?_)
        refine lv_iinc (v := x3 + 1) (lv' := [(3, .int (x3 + 1)), (2, .int z0), (0, .int p0), (1, .ref (la 0))]) hx hb dL_host_30 hl (k := 3) rfl rfl (by decide) rfl (fun ls hl => ?_)
        refine lv_goto (tgt := 4) hx hb dL_host_33 (by decide) ?_
        exact ih_4 z0 (x3 + 1) _ _ _  hP hD hS (lv_sub hl [2, 3, 1, 0] rfl) e
      intro x2 x3 H locs ls  hP hD hS hl e
      rw [pf_L_host_4, pf_L_host_4b] at e
      refine lv_iload_n hx hb dL_host_4 rfl (lv_at hl 3 rfl) ?_
      refine lv_iconst (v := 5) hx hb dL_host_5 (by decide) ?_
      refine lv_icmp_ge (tgt := 36) hx hb dL_host_6 (by decide) (fun c_6 => ?_) (fun c_6 => ?_)
      · have e := e.trans (if_pos c_6)
        refine lv_iload_n hx hb dL_host_36 rfl (lv_at hl 2 rfl) ?_
        obtain ⟨hn9, e⟩ := kv_B_e e hRz
        rw [hQ]
        exact W.zret (v := x2) hx hb hr hn9 (fun t ht hW => ⟨⟨x2, (), rfl, e, ⟨by rw [ht]; exact hP, by rw [hAe]; exact hD⟩⟩, hS.F ht⟩) hS.2.2 dL_host_37
      · have e := e.trans (if_neg c_6)
        refine lv_iload_n hx hb dL_host_9 rfl (lv_at hl 2 rfl) ?_
        refine lv_if_ne (tgt := 24) hx hb dL_host_10 (by decide) (fun c_10 => ?_) (fun c_10 => ?_)
        · have e := e.trans (if_neg c_10)
          refine lv_iconst (v := 1) hx hb dL_host_24 (by decide) ?_
          refine lv_goto (tgt := 29) hx hb dL_host_25 (by decide) ?_
          exact hb_29 x3 1 _ _ _  hP hD hS (lv_sub hl [0, 1, 3] rfl) e
        · have e := e.trans (if_pos c_10)
          refine lv_aload_n hx hb dL_host_13 rfl (lv_at hl 1 rfl) ?_
          refine lv_iconst (v := 4) hx hb dL_host_14 (by decide) ?_
          refine lv_iload_n hx hb dL_host_15 rfl (lv_at hl 3 rfl) ?_
          refine lv_imul hx hb dL_host_16 ?_
          refine lv_iconst (v := 1) hx hb dL_host_17 (by decide) ?_
          refine lv_iadd hx hb dL_host_18 ?_
          obtain ⟨hi_19, e⟩ := kv_G_e e hRz
          refine kv_iald hx hb hK hP 0 0 hi_19 dL_host_19 rfl rfl (fun y_19 ey_19 => ?_)
          have e := kv_T_e e ey_19
          refine lv_iload_n hx hb dL_host_20 rfl (lv_at hl 0 rfl) ?_
          refine lv_icmp_ne (tgt := 28) hx hb dL_host_21 (by decide) (fun c_21 => ?_) (fun c_21 => ?_)
          · have e := e.trans (if_neg c_21)
            refine lv_iconst (v := 0) hx hb dL_host_28 (by decide) ?_
            exact hb_29 x3 0 _ _ _  hP hD hS (lv_sub hl [0, 1, 3] rfl) e
          · have e := e.trans (if_pos c_21)
            refine lv_iconst (v := 1) hx hb dL_host_24 (by decide) ?_
            refine lv_goto (tgt := 29) hx hb dL_host_25 (by decide) ?_
            exact hb_29 x3 1 _ _ _  hP hD hS (lv_sub hl [0, 1, 3] rfl) e
  refine lv_iconst (v := 0) hx hb dL_host_0 (by decide) ?_
  refine lv_istore_n (lv' := [(2, .int 0), (0, .int p0), (1, .ref (la 0))]) hx hb dL_host_1 rfl hl (by decide) rfl (fun ls hl => ?_)
  refine lv_iconst (v := 0) hx hb dL_host_2 (by decide) ?_
  refine lv_istore_n (lv' := [(3, .int 0), (2, .int 0), (0, .int p0), (1, .ref (la 0))]) hx hb dL_host_3 rfl hl (by decide) rfl (fun ls hl => ?_)
  exact hb_4 kv_F 0 0 _ _ _  hP hD hS (lv_sub hl [2, 3, 1, 0] rfl) e

def pf_L_refuses_33 (lm : Nat → Int32) (p0 : Int32) (p1 : Int32)    : Option (Int32) :=
  some ((-2003))
def pf_L_refuses (lm : Nat → Int32) (p0 : Int32) (p1 : Int32)  : Option (Int32) :=
  if p0 = p1 then some ((-2002)) else if p1 < 0 then some (0) else kv_q1 (pf_L_host lm p0) (fun r_17 => if r_17 = 0 then kv_G ((4 * p1) + 1) 20 (kv_T (lm ((4 * p1) + 1).toNatClampNeg) (fun y_29 => if y_29 < 0 then some (0) else pf_L_refuses_33 lm p0 p1)) else pf_L_refuses_33 lm p0 p1)
abbrev rmL_refuses : Room := { frames := 1, cells := 0, slots := 0, locals := 23 }
set_option maxHeartbeats 4000000 in
set_option maxRecDepth 100000 in
theorem c_L_refuses (l : Launch) (D : va_G) (ci la : Nat → Nat) (lm : Nat → Int32) (lp : Nat → Int32) (lr : Nat → Int32) (lq : Nat → Int32) (p0 : Int32) (p1 : Int32)  (hRn : pf_L_refuses lm p0 p1 ≠ none) (sz : Nat) : Met l yL_refuses wsL_refuses rmL_refuses (va_Pc [.int p0, .int p1, .ref (la 0)] (kv_pre D ci (kv_lw ci la lm lp lr lq) sz)) (va_Qi (fun (r : Int32) (u : Unit) => pf_L_refuses lm p0 p1 = some (r)) (fun u t => kv_post D (kv_lw ci la lm lp lr lq) sz (kv_lw ci la lm lp lr lq) t) (va_A (kv_lw ci la lm lp lr lq) sz)) 0 0 (va_A (kv_lw ci la lm lp lr lq) sz) := by
  refine Met.ofW (cc := cL_refuses) (maxL := 3) (ret := (some .int)) (by decide) rfl ?_
  intro p en s m args below meth c s₁ B hml hv
  obtain ⟨hv0, hsz, hP, hK, hD0⟩ := hv
  have hx := B.exec
  have hb := B.bytes
  have hr := B.returns
  have hts := atoms_spec (ws := wsL_refuses) B.pre
  have hown : s.vm.findClass RL = some m.cls := findClass_of_methodNamed B.named
  have hlocks := B.notSynchronized
  subst hsz
  have hD := hD0.self (sz := s.heap.size)
  generalize hAe : va_A (kv_lw ci la lm lp lr lq) s.heap.size = A at hD ⊢
  have hA : ∀ q : Nat, s.heap.size ≤ q → A q := fun q h => by rw [← hAe]; exact Or.inr h
  have hS : va_S A s.heap s.heap [] := va_S.rf
  have hP : va_P D vwCl (kv_lw ci la lm lp lr lq) s.heap := hP
  generalize hRd : pf_L_refuses lm p0 p1 = Rz at hRn
  have hRz := hRn
  refine kv_Q (fun Q hQ => ?_)
  refine W.eq (show entryFrame m args 3 = _ from by rw [hv0, lg_entry_eq]) ?_
  have hl := lv_entry ([.int p0, .int p1, .ref (la 0)]) (n := 3) (Nat.le_of_ble_eq_true rfl)
  generalize (lg_sl ([.int p0, .int p1, .ref (la 0)]) ++ List.replicate (3 - (lg_sl ([.int p0, .int p1, .ref (la 0)])).length) Slot.unset).toArray = ls at hl ⊢
  have hl : lv_has ls 3 [(0, .int p0), (1, .int p1), (2, .ref (la 0))] := hl
  have e : Rz = pf_L_refuses lm p0 p1 := hRd.symm
  rw [pf_L_refuses] at e
  have hb_33 : ∀  (H : Heap) (locs : List Loc) (ls : Array Slot), va_P D vwCl (kv_lw ci la lm lp lr lq) H → va_D A (kv_lw ci la lm lp lr lq) → va_S A s.heap H locs → lv_has ls 3 [] → Rz = pf_L_refuses_33 lm p0 p1   → W p l en rmL_refuses s m args below meth c H locs 0 0 Q (F0 m 33 ls []) := by
    intro  H locs ls  hP hD hS hl e
    rw [pf_L_refuses_33] at e
    refine lv_sipush (v := (-2003)) hx hb dL_refuses_33 (by decide) ?_
    refine lv_goto (tgt := 40) hx hb dL_refuses_36 (by decide) ?_
    rw [hQ]
    exact W.iret (v := (-2003)) hx hb hr (fun t ht hW => ⟨⟨(-2003), (), rfl, e, ⟨by rw [ht]; exact hP, by rw [hAe]; exact hD⟩⟩, hS.F ht⟩) hS.2.2 dL_refuses_40
  refine lv_iload_n hx hb dL_refuses_0 rfl (lv_at hl 0 rfl) ?_
  refine lv_iload_n hx hb dL_refuses_1 rfl (lv_at hl 1 rfl) ?_
  refine lv_icmp_ne (tgt := 11) hx hb dL_refuses_2 (by decide) (fun c_2 => ?_) (fun c_2 => ?_)
  · have e := e.trans (if_neg c_2)
    refine lv_iload_n hx hb dL_refuses_11 rfl (lv_at hl 1 rfl) ?_
    refine lv_if_lt (tgt := 39) hx hb dL_refuses_12 (by decide) (fun c_12 => ?_) (fun c_12 => ?_)
    · have e := e.trans (if_pos c_12)
      refine lv_iconst (v := 0) hx hb dL_refuses_39 (by decide) ?_
      rw [hQ]
      exact W.iret (v := 0) hx hb hr (fun t ht hW => ⟨⟨0, (), rfl, e, ⟨by rw [ht]; exact hP, by rw [hAe]; exact hD⟩⟩, hS.F ht⟩) hS.2.2 dL_refuses_40
    · have e := e.trans (if_neg c_12)
      refine lv_iload_n hx hb dL_refuses_15 rfl (lv_at hl 0 rfl) ?_
      refine lv_aload_n hx hb dL_refuses_16 rfl (lv_at hl 2 rfl) ?_
      refine kv_calli (va_runS (As := [.int p0, .ref (la 0)]) (rest := []) ⟨hx, hb, hml, hown, hts⟩ (c_L_host l D ci la lm lp lr lq p0 (kv_q1_n e hRz) s.heap.size) (va_cwS 2 hts gL_refuses_L_host rfl rfl rfl (by decide +kernel) ⟨Nat.le_of_ble_eq_true rfl, Nat.le_of_ble_eq_true rfl⟩) (kv_preS hK hP hD) rfl rfl hl.1 rfl (lv_room (Nat.le_of_ble_eq_true rfl)) dL_refuses_17 ⟨Nat.le_of_ble_eq_true rfl, Nat.le_of_ble_eq_true rfl⟩) hD hS hA (fun r_17 u_17 H locs hw_17 hP hD hS => ?_)
      have e := kv_q1_e e hw_17
      refine lv_if_ne (tgt := 33) hx hb dL_refuses_20 (by decide) (fun c_20 => ?_) (fun c_20 => ?_)
      · have e := e.trans (if_neg c_20)
        exact hb_33  _ _ _  hP hD hS (lv_sub hl [] rfl) e
      · have e := e.trans (if_pos c_20)
        refine lv_aload_n hx hb dL_refuses_23 rfl (lv_at hl 2 rfl) ?_
        refine lv_iconst (v := 4) hx hb dL_refuses_24 (by decide) ?_
        refine lv_iload_n hx hb dL_refuses_25 rfl (lv_at hl 1 rfl) ?_
        refine lv_imul hx hb dL_refuses_26 ?_
        refine lv_iconst (v := 1) hx hb dL_refuses_27 (by decide) ?_
        refine lv_iadd hx hb dL_refuses_28 ?_
        obtain ⟨hi_29, e⟩ := kv_G_e e hRz
        refine kv_iald hx hb hK hP 0 0 hi_29 dL_refuses_29 rfl rfl (fun y_29 ey_29 => ?_)
        have e := kv_T_e e ey_29
        refine lv_if_lt (tgt := 39) hx hb dL_refuses_30 (by decide) (fun c_30 => ?_) (fun c_30 => ?_)
        · have e := e.trans (if_pos c_30)
          refine lv_iconst (v := 0) hx hb dL_refuses_39 (by decide) ?_
          rw [hQ]
          exact W.iret (v := 0) hx hb hr (fun t ht hW => ⟨⟨0, (), rfl, e, ⟨by rw [ht]; exact hP, by rw [hAe]; exact hD⟩⟩, hS.F ht⟩) hS.2.2 dL_refuses_40
        · have e := e.trans (if_neg c_30)
          exact hb_33  _ _ _  hP hD hS (lv_sub hl [] rfl) e
  · have e := e.trans (if_pos c_2)
    refine lv_sipush (v := (-2002)) hx hb dL_refuses_5 (by decide) ?_
    refine lv_goto (tgt := 40) hx hb dL_refuses_8 (by decide) ?_
    rw [hQ]
    exact W.iret (v := (-2002)) hx hb hr (fun t ht hW => ⟨⟨(-2002), (), rfl, e, ⟨by rw [ht]; exact hP, by rw [hAe]; exact hD⟩⟩, hS.F ht⟩) hS.2.2 dL_refuses_40

def pf_L_covers_99 (lm : Nat → Int32) (lr : Nat → Int32) (p0 : Int32) (p1 : Int32) (k_6 : Int32 → Int32 → Option (Int32)) (x5 : Int32) (z0 : Int32) (z1 : Int32)  : Option (Int32) :=
  kv_T (z0 + z1) (fun y_100 => k_6 y_100 (x5 + 1))
def pf_L_covers_64 (lm : Nat → Int32) (lr : Nat → Int32) (p0 : Int32) (p1 : Int32) (k_6 : Int32 → Int32 → Option (Int32)) (x4 : Int32) (x5 : Int32) (x6 : Int32) (z0 : Int32)  : Option (Int32) :=
  if z0 = 0 then pf_L_covers_99 lm lr p0 p1 k_6 x5 x4 0 else if x6 ≤ 0 then pf_L_covers_99 lm lr p0 p1 k_6 x5 x4 0 else kv_G ((6 * p0) + 4) 60 (kv_T (lr ((6 * p0) + 4).toNatClampNeg) (fun y_87 => if y_87 < x6 then pf_L_covers_99 lm lr p0 p1 k_6 x5 x4 0 else pf_L_covers_99 lm lr p0 p1 k_6 x5 x4 (1 <<< (x5 &&& 31))))
def pf_L_covers_6b (lm : Nat → Int32) (lr : Nat → Int32) (p0 : Int32) (p1 : Int32)  (k_6 : Int32 → Int32 → Option (Int32)) (x4 : Int32) (x5 : Int32)  : Option (Int32) :=
  if 5 ≤ x5 then some (x4) else kv_G (6 * p0) 60 (kv_T (lr (6 * p0).toNatClampNeg) (fun y_24 => kv_G (((4 * x5) + 2) + y_24) 20 (kv_T (lm (((4 * x5) + 2) + y_24).toNatClampNeg) (fun y_26 => if x5 = p1 then pf_L_covers_64 lm lr p0 p1 k_6 x4 x5 y_26 1 else kv_G ((6 * p0) + 1) 60 (kv_T (lr ((6 * p0) + 1).toNatClampNeg) (fun y_42 => if y_42 = 1 then kv_G ((4 * x5) + 1) 20 (kv_T (lm ((4 * x5) + 1).toNatClampNeg) (fun y_54 => if y_54 = p1 then pf_L_covers_64 lm lr p0 p1 k_6 x4 x5 y_26 1 else pf_L_covers_64 lm lr p0 p1 k_6 x4 x5 y_26 0)) else pf_L_covers_64 lm lr p0 p1 k_6 x4 x5 y_26 0))))))
def pf_L_covers_6 (lm : Nat → Int32) (lr : Nat → Int32) (p0 : Int32) (p1 : Int32)  : Nat → Int32 → Int32 → Option (Int32)
  | 0, _, _ => none
  | nn + 1, x4, x5 => pf_L_covers_6b lm lr p0 p1  (pf_L_covers_6 lm lr p0 p1  nn) x4 x5
def pf_L_covers (lm : Nat → Int32) (lr : Nat → Int32) (p0 : Int32) (p1 : Int32)  : Option (Int32) :=
  pf_L_covers_6 lm lr p0 p1 kv_F 0 0
abbrev rmL_covers : Room := { frames := 0, cells := 0, slots := 0, locals := 0 }
set_option maxHeartbeats 4000000 in
set_option maxRecDepth 100000 in
theorem c_L_covers (l : Launch) (D : va_G) (ci la : Nat → Nat) (lm : Nat → Int32) (lp : Nat → Int32) (lr : Nat → Int32) (lq : Nat → Int32) (p0 : Int32) (p1 : Int32)  (hRn : pf_L_covers lm lr p0 p1 ≠ none) (sz : Nat) : Met l yL_covers wsL_covers rmL_covers (va_Pc [.int p0, .int p1, .ref (la 0), .ref (la 2)] (kv_pre D ci (kv_lw ci la lm lp lr lq) sz)) (va_Qi (fun (r : Int32) (u : Unit) => pf_L_covers lm lr p0 p1 = some (r)) (fun u t => kv_post D (kv_lw ci la lm lp lr lq) sz (kv_lw ci la lm lp lr lq) t) (va_A (kv_lw ci la lm lp lr lq) sz)) 0 0 (va_A (kv_lw ci la lm lp lr lq) sz) := by
  refine Met.ofW (cc := cL_covers) (maxL := 8) (ret := (some .int)) (by decide) rfl ?_
  intro p en s m args below meth c s₁ B hml hv
  obtain ⟨hv0, hsz, hP, hK, hD0⟩ := hv
  have hx := B.exec
  have hb := B.bytes
  have hr := B.returns
  have hts := atoms_spec (ws := wsL_covers) B.pre
  have hown : s.vm.findClass RL = some m.cls := findClass_of_methodNamed B.named
  have hlocks := B.notSynchronized
  subst hsz
  have hD := hD0.self (sz := s.heap.size)
  generalize hAe : va_A (kv_lw ci la lm lp lr lq) s.heap.size = A at hD ⊢
  have hA : ∀ q : Nat, s.heap.size ≤ q → A q := fun q h => by rw [← hAe]; exact Or.inr h
  have hS : va_S A s.heap s.heap [] := va_S.rf
  have hP : va_P D vwCl (kv_lw ci la lm lp lr lq) s.heap := hP
  generalize hRd : pf_L_covers lm lr p0 p1 = Rz at hRn
  have hRz := hRn
  refine kv_Q (fun Q hQ => ?_)
  refine W.eq (show entryFrame m args 8 = _ from by rw [hv0, lg_entry_eq]) ?_
  have hl := lv_entry ([.int p0, .int p1, .ref (la 0), .ref (la 2)]) (n := 8) (Nat.le_of_ble_eq_true rfl)
  generalize (lg_sl ([.int p0, .int p1, .ref (la 0), .ref (la 2)]) ++ List.replicate (8 - (lg_sl ([.int p0, .int p1, .ref (la 0), .ref (la 2)])).length) Slot.unset).toArray = ls at hl ⊢
  have hl : lv_has ls 8 [(0, .int p0), (1, .int p1), (2, .ref (la 0)), (3, .ref (la 2))] := hl
  have e : Rz = pf_L_covers lm lr p0 p1 := hRd.symm
  rw [pf_L_covers] at e
  have hb_6 : ∀ (n_6 : Nat), ∀ (x4 : Int32) (x5 : Int32) (H : Heap) (locs : List Loc) (ls : Array Slot), va_P D vwCl (kv_lw ci la lm lp lr lq) H → va_D A (kv_lw ci la lm lp lr lq) → va_S A s.heap H locs → lv_has ls 8 [(0, .int p0), (1, .int p1), (2, .ref (la 0)), (3, .ref (la 2)), (4, .int x4), (5, .int x5)] → Rz = pf_L_covers_6 lm lr p0 p1  n_6 x4 x5 → W p l en rmL_covers s m args below meth c H locs 0 0 Q (F0 m 6 ls []) := by
    intro n_6
    induction n_6 with
    | zero =>
      intro x4 x5 H locs ls  _ _ _ _ e
      exact absurd e hRz
    | succ n_6 ih_6 =>
      have hb_99 : ∀ (x5 : Int32) (z0 : Int32) (z1 : Int32) (H : Heap) (locs : List Loc) (ls : Array Slot), va_P D vwCl (kv_lw ci la lm lp lr lq) H → va_D A (kv_lw ci la lm lp lr lq) → va_S A s.heap H locs → lv_has ls 8 [(0, .int p0), (1, .int p1), (2, .ref (la 0)), (3, .ref (la 2)), (5, .int x5)] → Rz = pf_L_covers_99 lm lr p0 p1 (pf_L_covers_6 lm lr p0 p1  n_6) x5 z0 z1 → W p l en rmL_covers s m args below meth c H locs 0 0 Q (F0 m 99 ls [.int z1, .int z0]) := by
        intro x5 z0 z1 H locs ls  hP hD hS hl e
        rw [pf_L_covers_99] at e
        refine lv_iadd hx hb dL_covers_99 ?_
        refine lv_topi (fun y_100 ey_100 => ?_)
        have e := kv_T_e e ey_100
        refine lv_istore (lv' := [(4, .int y_100), (0, .int p0), (1, .int p1), (2, .ref (la 0)), (3, .ref (la 2)), (5, .int x5)]) hx hb dL_covers_100 hl (by decide) rfl (fun ls hl => ?_)
        refine lv_iinc (v := x5 + 1) (lv' := [(5, .int (x5 + 1)), (4, .int y_100), (0, .int p0), (1, .int p1), (2, .ref (la 0)), (3, .ref (la 2))]) hx hb dL_covers_102 hl (k := 5) rfl rfl (by decide) rfl (fun ls hl => ?_)
        refine lv_goto (tgt := 6) hx hb dL_covers_105 (by decide) ?_
        exact ih_6 y_100 (x5 + 1) _ _ _  hP hD hS (lv_sub hl [2, 3, 4, 5, 1, 0] rfl) e
      have hb_64 : ∀ (x4 : Int32) (x5 : Int32) (x6 : Int32) (z0 : Int32) (H : Heap) (locs : List Loc) (ls : Array Slot), va_P D vwCl (kv_lw ci la lm lp lr lq) H → va_D A (kv_lw ci la lm lp lr lq) → va_S A s.heap H locs → lv_has ls 8 [(0, .int p0), (1, .int p1), (2, .ref (la 0)), (3, .ref (la 2)), (4, .int x4), (5, .int x5), (6, .int x6)] → Rz = pf_L_covers_64 lm lr p0 p1 (pf_L_covers_6 lm lr p0 p1  n_6) x4 x5 x6 z0 → W p l en rmL_covers s m args below meth c H locs 0 0 Q (F0 m 64 ls [.int z0]) := by
        intro x4 x5 x6 z0 H locs ls  hP hD hS hl e
        rw [pf_L_covers_64] at e
        refine lv_istore (lv' := [(7, .int z0), (0, .int p0), (1, .int p1), (2, .ref (la 0)), (3, .ref (la 2)), (4, .int x4), (5, .int x5), (6, .int x6)]) hx hb dL_covers_64 hl (by decide) rfl (fun ls hl => ?_)
        refine lv_iload hx hb dL_covers_66 (lv_at hl 5 rfl) ?_
        refine lv_iload hx hb dL_covers_68 (lv_at hl 0 rfl) ?_
        refine lv_if_eq (tgt := 98) hx hb dL_covers_70 (by decide) (fun c_70 => ?_) (fun c_70 => ?_)
        · have e := e.trans (if_pos c_70)
          refine lv_iconst (v := 0) hx hb dL_covers_98 (by decide) ?_
          exact hb_99 x5 x4 0 _ _ _  hP hD hS (lv_sub hl [1, 2, 3, 4, 6] rfl) e
        · have e := e.trans (if_neg c_70)
          refine lv_iload hx hb dL_covers_73 (lv_at hl 7 rfl) ?_
          refine lv_if_le (tgt := 98) hx hb dL_covers_75 (by decide) (fun c_75 => ?_) (fun c_75 => ?_)
          · have e := e.trans (if_pos c_75)
            refine lv_iconst (v := 0) hx hb dL_covers_98 (by decide) ?_
            exact hb_99 x5 x4 0 _ _ _  hP hD hS (lv_sub hl [1, 2, 3, 4, 6] rfl) e
          · have e := e.trans (if_neg c_75)
            refine lv_iload hx hb dL_covers_78 (lv_at hl 7 rfl) ?_
            refine lv_aload_n hx hb dL_covers_80 rfl (lv_at hl 4 rfl) ?_
            refine lv_bipush (v := 6) hx hb dL_covers_81 (by decide) ?_
            refine lv_iload_n hx hb dL_covers_83 rfl (lv_at hl 1 rfl) ?_
            refine lv_imul hx hb dL_covers_84 ?_
            refine lv_iconst (v := 4) hx hb dL_covers_85 (by decide) ?_
            refine lv_iadd hx hb dL_covers_86 ?_
            obtain ⟨hi_87, e⟩ := kv_G_e e hRz
            refine kv_iald hx hb hK hP 2 0 hi_87 dL_covers_87 rfl rfl (fun y_87 ey_87 => ?_)
            have e := kv_T_e e ey_87
            refine lv_icmp_gt (tgt := 98) hx hb dL_covers_88 (by decide) (fun c_88 => ?_) (fun c_88 => ?_)
            · have e := e.trans (if_pos c_88)
              refine lv_iconst (v := 0) hx hb dL_covers_98 (by decide) ?_
              exact hb_99 x5 x4 0 _ _ _  hP hD hS (lv_sub hl [1, 2, 3, 4, 6] rfl) e
            · have e := e.trans (if_neg c_88)
              refine lv_iconst (v := 1) hx hb dL_covers_91 (by decide) ?_
              refine lv_iload hx hb dL_covers_92 (lv_at hl 6 rfl) ?_
              refine lv_ishl hx hb dL_covers_94 ?_
              refine lv_goto (tgt := 99) hx hb dL_covers_95 (by decide) ?_
              exact hb_99 x5 x4 (1 <<< (x5 &&& 31)) _ _ _  hP hD hS (lv_sub hl [1, 2, 3, 4, 6] rfl) e
      intro x4 x5 H locs ls  hP hD hS hl e
      rw [pf_L_covers_6, pf_L_covers_6b] at e
      refine lv_iload hx hb dL_covers_6 (lv_at hl 5 rfl) ?_
      refine lv_iconst (v := 5) hx hb dL_covers_8 (by decide) ?_
      refine lv_icmp_ge (tgt := 108) hx hb dL_covers_9 (by decide) (fun c_9 => ?_) (fun c_9 => ?_)
      · have e := e.trans (if_pos c_9)
        refine lv_iload hx hb dL_covers_108 (lv_at hl 4 rfl) ?_
        rw [hQ]
        exact W.iret (v := x4) hx hb hr (fun t ht hW => ⟨⟨x4, (), rfl, e, ⟨by rw [ht]; exact hP, by rw [hAe]; exact hD⟩⟩, hS.F ht⟩) hS.2.2 dL_covers_110
      · have e := e.trans (if_neg c_9)
        refine lv_aload_n hx hb dL_covers_12 rfl (lv_at hl 2 rfl) ?_
        refine lv_iconst (v := 4) hx hb dL_covers_13 (by decide) ?_
        refine lv_iload hx hb dL_covers_14 (lv_at hl 5 rfl) ?_
        refine lv_imul hx hb dL_covers_16 ?_
        refine lv_iconst (v := 2) hx hb dL_covers_17 (by decide) ?_
        refine lv_iadd hx hb dL_covers_18 ?_
        refine lv_aload_n hx hb dL_covers_19 rfl (lv_at hl 3 rfl) ?_
        refine lv_bipush (v := 6) hx hb dL_covers_20 (by decide) ?_
        refine lv_iload_n hx hb dL_covers_22 rfl (lv_at hl 0 rfl) ?_
        refine lv_imul hx hb dL_covers_23 ?_
        obtain ⟨hi_24, e⟩ := kv_G_e e hRz
        refine kv_iald hx hb hK hP 2 0 hi_24 dL_covers_24 rfl rfl (fun y_24 ey_24 => ?_)
        have e := kv_T_e e ey_24
        refine lv_iadd hx hb dL_covers_25 ?_
        obtain ⟨hi_26, e⟩ := kv_G_e e hRz
        refine kv_iald hx hb hK hP 0 0 hi_26 dL_covers_26 rfl rfl (fun y_26 ey_26 => ?_)
        have e := kv_T_e e ey_26
        refine lv_istore (lv' := [(6, .int y_26), (0, .int p0), (1, .int p1), (2, .ref (la 0)), (3, .ref (la 2)), (4, .int x4), (5, .int x5)]) hx hb dL_covers_27 hl (by decide) rfl (fun ls hl => ?_)
        refine lv_iload hx hb dL_covers_29 (lv_at hl 6 rfl) ?_
        refine lv_iload_n hx hb dL_covers_31 rfl (lv_at hl 2 rfl) ?_
        refine lv_icmp_eq (tgt := 59) hx hb dL_covers_32 (by decide) (fun c_32 => ?_) (fun c_32 => ?_)
        · have e := e.trans (if_pos c_32)
          refine lv_iconst (v := 1) hx hb dL_covers_59 (by decide) ?_
          refine lv_goto (tgt := 64) hx hb dL_covers_60 (by decide) ?_
          exact hb_64 x4 x5 y_26 1 _ _ _  hP hD hS (lv_sub hl [1, 2, 3, 4, 5, 6, 0] rfl) e
        · have e := e.trans (if_neg c_32)
          refine lv_aload_n hx hb dL_covers_35 rfl (lv_at hl 4 rfl) ?_
          refine lv_bipush (v := 6) hx hb dL_covers_36 (by decide) ?_
          refine lv_iload_n hx hb dL_covers_38 rfl (lv_at hl 1 rfl) ?_
          refine lv_imul hx hb dL_covers_39 ?_
          refine lv_iconst (v := 1) hx hb dL_covers_40 (by decide) ?_
          refine lv_iadd hx hb dL_covers_41 ?_
          obtain ⟨hi_42, e⟩ := kv_G_e e hRz
          refine kv_iald hx hb hK hP 2 0 hi_42 dL_covers_42 rfl rfl (fun y_42 ey_42 => ?_)
          have e := kv_T_e e ey_42
          refine lv_iconst (v := 1) hx hb dL_covers_43 (by decide) ?_
          refine lv_icmp_ne (tgt := 63) hx hb dL_covers_44 (by decide) (fun c_44 => ?_) (fun c_44 => ?_)
          · have e := e.trans (if_neg c_44)
            refine lv_iconst (v := 0) hx hb dL_covers_63 (by decide) ?_
            exact hb_64 x4 x5 y_26 0 _ _ _  hP hD hS (lv_sub hl [1, 2, 3, 4, 5, 6, 0] rfl) e
          · have e := e.trans (if_pos c_44)
            refine lv_aload_n hx hb dL_covers_47 rfl (lv_at hl 3 rfl) ?_
            refine lv_iconst (v := 4) hx hb dL_covers_48 (by decide) ?_
            refine lv_iload hx hb dL_covers_49 (lv_at hl 6 rfl) ?_
            refine lv_imul hx hb dL_covers_51 ?_
            refine lv_iconst (v := 1) hx hb dL_covers_52 (by decide) ?_
            refine lv_iadd hx hb dL_covers_53 ?_
            obtain ⟨hi_54, e⟩ := kv_G_e e hRz
            refine kv_iald hx hb hK hP 0 0 hi_54 dL_covers_54 rfl rfl (fun y_54 ey_54 => ?_)
            have e := kv_T_e e ey_54
            refine lv_iload_n hx hb dL_covers_55 rfl (lv_at hl 2 rfl) ?_
            refine lv_icmp_ne (tgt := 63) hx hb dL_covers_56 (by decide) (fun c_56 => ?_) (fun c_56 => ?_)
            · have e := e.trans (if_neg c_56)
              refine lv_iconst (v := 0) hx hb dL_covers_63 (by decide) ?_
              exact hb_64 x4 x5 y_26 0 _ _ _  hP hD hS (lv_sub hl [1, 2, 3, 4, 5, 6, 0] rfl) e
            · have e := e.trans (if_pos c_56)
              refine lv_iconst (v := 1) hx hb dL_covers_59 (by decide) ?_
              refine lv_goto (tgt := 64) hx hb dL_covers_60 (by decide) ?_
              exact hb_64 x4 x5 y_26 1 _ _ _  hP hD hS (lv_sub hl [1, 2, 3, 4, 5, 6, 0] rfl) e
  refine lv_iconst (v := 0) hx hb dL_covers_0 (by decide) ?_
  refine lv_istore (lv' := [(4, .int 0), (0, .int p0), (1, .int p1), (2, .ref (la 0)), (3, .ref (la 2))]) hx hb dL_covers_1 hl (by decide) rfl (fun ls hl => ?_)
  refine lv_iconst (v := 0) hx hb dL_covers_3 (by decide) ?_
  refine lv_istore (lv' := [(5, .int 0), (4, .int 0), (0, .int p0), (1, .int p1), (2, .ref (la 0)), (3, .ref (la 2))]) hx hb dL_covers_4 hl (by decide) rfl (fun ls hl => ?_)
  exact hb_6 kv_F 0 0 _ _ _  hP hD hS (lv_sub hl [2, 3, 4, 5, 1, 0] rfl) e

def pf_L_spreads_148 (lm : Nat → Int32) (lr : Nat → Int32) (p0 : Int32) (p1 : Int32) (k_6 : Int32 → Int32 → Option (Int32)) (k_105 : Int32 → Int32 → Int32 → Int32 → Int32 → Option (Int32)) (x5 : Int32) (x6 : Int32) (x7 : Int32) (x8 : Int32) (z0 : Int32) (z1 : Int32)  : Option (Int32) :=
  kv_T (z0 ||| z1) (fun y_149 => k_105 y_149 x5 x6 x7 (x8 + 1))
def pf_L_spreads_105b (lm : Nat → Int32) (lr : Nat → Int32) (p0 : Int32) (p1 : Int32) (k_6 : Int32 → Int32 → Option (Int32)) (k_105 : Int32 → Int32 → Int32 → Int32 → Int32 → Option (Int32)) (x4 : Int32) (x5 : Int32) (x6 : Int32) (x7 : Int32) (x8 : Int32)  : Option (Int32) :=
  if 32 ≤ x8 then k_6 x4 (x5 + 1) else kv_G ((6 * p1) + 2) 60 (kv_T (lr ((6 * p1) + 2).toNatClampNeg) (fun y_121 => if y_121 < x6 then k_6 x4 (x5 + 1) else if ((p0 >>> (x8 &&& 31)) &&& 1) = 1 then pf_L_spreads_148 lm lr p0 p1 k_6 k_105 x5 x6 x7 x8 x4 (1 <<< ((x8 ||| x7) &&& 31)) else pf_L_spreads_148 lm lr p0 p1 k_6 k_105 x5 x6 x7 x8 x4 0))
def pf_L_spreads_105 (lm : Nat → Int32) (lr : Nat → Int32) (p0 : Int32) (p1 : Int32) (k_6 : Int32 → Int32 → Option (Int32)) : Nat → Int32 → Int32 → Int32 → Int32 → Int32 → Option (Int32)
  | 0, _, _, _, _, _ => none
  | nn + 1, x4, x5, x6, x7, x8 => pf_L_spreads_105b lm lr p0 p1 k_6 (pf_L_spreads_105 lm lr p0 p1 k_6 nn) x4 x5 x6 x7 x8
def pf_L_spreads_80 (lm : Nat → Int32) (lr : Nat → Int32) (p0 : Int32) (p1 : Int32) (k_6 : Int32 → Int32 → Option (Int32)) (k_22 : Int32 → Int32 → Int32 → Int32 → Int32 → Option (Int32)) (x4 : Int32) (x5 : Int32) (x7 : Int32) (x8 : Int32) (z0 : Int32) (z1 : Int32)  : Option (Int32) :=
  kv_T (z0 + z1) (fun y_81 => kv_q1 (pf_L_covers lm lr p1 x8) (fun r_90 => kv_T (x7 ||| r_90) (fun y_94 => k_22 x4 x5 y_81 y_94 (x8 + 1))))
def pf_L_spreads_59 (lm : Nat → Int32) (lr : Nat → Int32) (p0 : Int32) (p1 : Int32) (k_6 : Int32 → Int32 → Option (Int32)) (k_22 : Int32 → Int32 → Int32 → Int32 → Int32 → Option (Int32)) (x4 : Int32) (x5 : Int32) (x6 : Int32) (x7 : Int32) (x8 : Int32) (z0 : Int32)  : Option (Int32) :=
  kv_G ((6 * p1) + 1) 60 (kv_T (lr ((6 * p1) + 1).toNatClampNeg) (fun y_70 => if y_70 = 0 then pf_L_spreads_80 lm lr p0 p1 k_6 k_22 x4 x5 x7 x8 x6 1 else pf_L_spreads_80 lm lr p0 p1 k_6 k_22 x4 x5 x7 x8 x6 z0))
def pf_L_spreads_22b (lm : Nat → Int32) (lr : Nat → Int32) (p0 : Int32) (p1 : Int32) (k_6 : Int32 → Int32 → Option (Int32)) (k_22 : Int32 → Int32 → Int32 → Int32 → Int32 → Option (Int32)) (x4 : Int32) (x5 : Int32) (x6 : Int32) (x7 : Int32) (x8 : Int32)  : Option (Int32) :=
  if 5 ≤ x8 then pf_L_spreads_105 lm lr p0 p1 k_6 kv_F x4 x5 x6 x7 0 else if ((x5 >>> (x8 &&& 31)) &&& 1) = 1 then kv_G (4 * x8) 20 (kv_T (lm (4 * x8).toNatClampNeg) (fun y_44 => if y_44 ≤ 4 then pf_L_spreads_59 lm lr p0 p1 k_6 k_22 x4 x5 x6 x7 x8 4 else kv_G (4 * x8) 20 (kv_T (lm (4 * x8).toNatClampNeg) (fun y_54 => pf_L_spreads_59 lm lr p0 p1 k_6 k_22 x4 x5 x6 x7 x8 y_54)))) else k_22 x4 x5 x6 x7 (x8 + 1)
def pf_L_spreads_22 (lm : Nat → Int32) (lr : Nat → Int32) (p0 : Int32) (p1 : Int32) (k_6 : Int32 → Int32 → Option (Int32)) : Nat → Int32 → Int32 → Int32 → Int32 → Int32 → Option (Int32)
  | 0, _, _, _, _, _ => none
  | nn + 1, x4, x5, x6, x7, x8 => pf_L_spreads_22b lm lr p0 p1 k_6 (pf_L_spreads_22 lm lr p0 p1 k_6 nn) x4 x5 x6 x7 x8
def pf_L_spreads_6b (lm : Nat → Int32) (lr : Nat → Int32) (p0 : Int32) (p1 : Int32)  (k_6 : Int32 → Int32 → Option (Int32)) (x4 : Int32) (x5 : Int32)  : Option (Int32) :=
  if 32 ≤ x5 then some (x4) else pf_L_spreads_22 lm lr p0 p1 k_6 kv_F x4 x5 0 0 0
def pf_L_spreads_6 (lm : Nat → Int32) (lr : Nat → Int32) (p0 : Int32) (p1 : Int32)  : Nat → Int32 → Int32 → Option (Int32)
  | 0, _, _ => none
  | nn + 1, x4, x5 => pf_L_spreads_6b lm lr p0 p1  (pf_L_spreads_6 lm lr p0 p1  nn) x4 x5
def pf_L_spreads (lm : Nat → Int32) (lr : Nat → Int32) (p0 : Int32) (p1 : Int32)  : Option (Int32) :=
  pf_L_spreads_6 lm lr p0 p1 kv_F 0 0
abbrev rmL_spreads : Room := { frames := 1, cells := 0, slots := 0, locals := 27 }
set_option maxHeartbeats 4000000 in
set_option maxRecDepth 100000 in
theorem c_L_spreads (l : Launch) (D : va_G) (ci la : Nat → Nat) (lm : Nat → Int32) (lp : Nat → Int32) (lr : Nat → Int32) (lq : Nat → Int32) (p0 : Int32) (p1 : Int32)  (hRn : pf_L_spreads lm lr p0 p1 ≠ none) (sz : Nat) : Met l yL_spreads wsL_spreads rmL_spreads (va_Pc [.int p0, .int p1, .ref (la 0), .ref (la 2)] (kv_pre D ci (kv_lw ci la lm lp lr lq) sz)) (va_Qi (fun (r : Int32) (u : Unit) => pf_L_spreads lm lr p0 p1 = some (r)) (fun u t => kv_post D (kv_lw ci la lm lp lr lq) sz (kv_lw ci la lm lp lr lq) t) (va_A (kv_lw ci la lm lp lr lq) sz)) 0 0 (va_A (kv_lw ci la lm lp lr lq) sz) := by
  refine Met.ofW (cc := cL_spreads) (maxL := 10) (ret := (some .int)) (by decide) rfl ?_
  intro p en s m args below meth c s₁ B hml hv
  obtain ⟨hv0, hsz, hP, hK, hD0⟩ := hv
  have hx := B.exec
  have hb := B.bytes
  have hr := B.returns
  have hts := atoms_spec (ws := wsL_spreads) B.pre
  have hown : s.vm.findClass RL = some m.cls := findClass_of_methodNamed B.named
  have hlocks := B.notSynchronized
  subst hsz
  have hD := hD0.self (sz := s.heap.size)
  generalize hAe : va_A (kv_lw ci la lm lp lr lq) s.heap.size = A at hD ⊢
  have hA : ∀ q : Nat, s.heap.size ≤ q → A q := fun q h => by rw [← hAe]; exact Or.inr h
  have hS : va_S A s.heap s.heap [] := va_S.rf
  have hP : va_P D vwCl (kv_lw ci la lm lp lr lq) s.heap := hP
  generalize hRd : pf_L_spreads lm lr p0 p1 = Rz at hRn
  have hRz := hRn
  refine kv_Q (fun Q hQ => ?_)
  refine W.eq (show entryFrame m args 10 = _ from by rw [hv0, lg_entry_eq]) ?_
  have hl := lv_entry ([.int p0, .int p1, .ref (la 0), .ref (la 2)]) (n := 10) (Nat.le_of_ble_eq_true rfl)
  generalize (lg_sl ([.int p0, .int p1, .ref (la 0), .ref (la 2)]) ++ List.replicate (10 - (lg_sl ([.int p0, .int p1, .ref (la 0), .ref (la 2)])).length) Slot.unset).toArray = ls at hl ⊢
  have hl : lv_has ls 10 [(0, .int p0), (1, .int p1), (2, .ref (la 0)), (3, .ref (la 2))] := hl
  have e : Rz = pf_L_spreads lm lr p0 p1 := hRd.symm
  rw [pf_L_spreads] at e
  have hb_6 : ∀ (n_6 : Nat), ∀ (x4 : Int32) (x5 : Int32) (H : Heap) (locs : List Loc) (ls : Array Slot), va_P D vwCl (kv_lw ci la lm lp lr lq) H → va_D A (kv_lw ci la lm lp lr lq) → va_S A s.heap H locs → lv_has ls 10 [(0, .int p0), (1, .int p1), (2, .ref (la 0)), (3, .ref (la 2)), (4, .int x4), (5, .int x5)] → Rz = pf_L_spreads_6 lm lr p0 p1  n_6 x4 x5 → W p l en rmL_spreads s m args below meth c H locs 0 0 Q (F0 m 6 ls []) := by
    intro n_6
    induction n_6 with
    | zero =>
      intro x4 x5 H locs ls  _ _ _ _ e
      exact absurd e hRz
    | succ n_6 ih_6 =>
      have hb_105 : ∀ (n_105 : Nat), ∀ (x4 : Int32) (x5 : Int32) (x6 : Int32) (x7 : Int32) (x8 : Int32) (H : Heap) (locs : List Loc) (ls : Array Slot), va_P D vwCl (kv_lw ci la lm lp lr lq) H → va_D A (kv_lw ci la lm lp lr lq) → va_S A s.heap H locs → lv_has ls 10 [(0, .int p0), (1, .int p1), (2, .ref (la 0)), (3, .ref (la 2)), (4, .int x4), (5, .int x5), (6, .int x6), (7, .int x7), (8, .int x8)] → Rz = pf_L_spreads_105 lm lr p0 p1 (pf_L_spreads_6 lm lr p0 p1  n_6) n_105 x4 x5 x6 x7 x8 → W p l en rmL_spreads s m args below meth c H locs 0 0 Q (F0 m 105 ls []) := by
        intro n_105
        induction n_105 with
        | zero =>
          intro x4 x5 x6 x7 x8 H locs ls  _ _ _ _ e
          exact absurd e hRz
        | succ n_105 ih_105 =>
          have hb_148 : ∀ (x5 : Int32) (x6 : Int32) (x7 : Int32) (x8 : Int32) (z0 : Int32) (z1 : Int32) (H : Heap) (locs : List Loc) (ls : Array Slot), va_P D vwCl (kv_lw ci la lm lp lr lq) H → va_D A (kv_lw ci la lm lp lr lq) → va_S A s.heap H locs → lv_has ls 10 [(0, .int p0), (1, .int p1), (2, .ref (la 0)), (3, .ref (la 2)), (5, .int x5), (6, .int x6), (7, .int x7), (8, .int x8)] → Rz = pf_L_spreads_148 lm lr p0 p1 (pf_L_spreads_6 lm lr p0 p1  n_6) (pf_L_spreads_105 lm lr p0 p1 (pf_L_spreads_6 lm lr p0 p1  n_6) n_105) x5 x6 x7 x8 z0 z1 → W p l en rmL_spreads s m args below meth c H locs 0 0 Q (F0 m 148 ls [.int z1, .int z0]) := by
            intro x5 x6 x7 x8 z0 z1 H locs ls  hP hD hS hl e
            rw [pf_L_spreads_148] at e
            refine lv_ior hx hb dL_spreads_148 ?_
            refine lv_topi (fun y_149 ey_149 => ?_)
            have e := kv_T_e e ey_149
            refine lv_istore (lv' := [(4, .int y_149), (0, .int p0), (1, .int p1), (2, .ref (la 0)), (3, .ref (la 2)), (5, .int x5), (6, .int x6), (7, .int x7), (8, .int x8)]) hx hb dL_spreads_149 hl (by decide) rfl (fun ls hl => ?_)
            refine lv_iinc (v := x8 + 1) (lv' := [(8, .int (x8 + 1)), (4, .int y_149), (0, .int p0), (1, .int p1), (2, .ref (la 0)), (3, .ref (la 2)), (5, .int x5), (6, .int x6), (7, .int x7)]) hx hb dL_spreads_151 hl (k := 8) rfl rfl (by decide) rfl (fun ls hl => ?_)
            refine lv_goto (tgt := 105) hx hb dL_spreads_154 (by decide) ?_
            exact ih_105 y_149 x5 x6 x7 (x8 + 1) _ _ _  hP hD hS (lv_sub hl [2, 3, 4, 5, 1, 6, 7, 8, 0] rfl) e
          intro x4 x5 x6 x7 x8 H locs ls  hP hD hS hl e
          rw [pf_L_spreads_105, pf_L_spreads_105b] at e
          refine lv_iload hx hb dL_spreads_105 (lv_at hl 8 rfl) ?_
          refine lv_bipush (v := 32) hx hb dL_spreads_107 (by decide) ?_
          refine lv_icmp_ge (tgt := 157) hx hb dL_spreads_109 (by decide) (fun c_109 => ?_) (fun c_109 => ?_)
          · have e := e.trans (if_pos c_109)
            refine lv_iinc (v := x5 + 1) (lv' := [(5, .int (x5 + 1)), (0, .int p0), (1, .int p1), (2, .ref (la 0)), (3, .ref (la 2)), (4, .int x4), (6, .int x6), (7, .int x7), (8, .int x8)]) hx hb dL_spreads_157 hl (k := 5) rfl rfl (by decide) rfl (fun ls hl => ?_)
            refine lv_goto (tgt := 6) hx hb dL_spreads_160 (by decide) ?_
            exact ih_6 x4 (x5 + 1) _ _ _  hP hD hS (lv_sub hl [1, 2, 3, 4, 5, 0] rfl) e
          · have e := e.trans (if_neg c_109)
            refine lv_iload hx hb dL_spreads_112 (lv_at hl 6 rfl) ?_
            refine lv_aload_n hx hb dL_spreads_114 rfl (lv_at hl 3 rfl) ?_
            refine lv_bipush (v := 6) hx hb dL_spreads_115 (by decide) ?_
            refine lv_iload_n hx hb dL_spreads_117 rfl (lv_at hl 1 rfl) ?_
            refine lv_imul hx hb dL_spreads_118 ?_
            refine lv_iconst (v := 2) hx hb dL_spreads_119 (by decide) ?_
            refine lv_iadd hx hb dL_spreads_120 ?_
            obtain ⟨hi_121, e⟩ := kv_G_e e hRz
            refine kv_iald hx hb hK hP 2 0 hi_121 dL_spreads_121 rfl rfl (fun y_121 ey_121 => ?_)
            have e := kv_T_e e ey_121
            refine lv_icmp_gt (tgt := 157) hx hb dL_spreads_122 (by decide) (fun c_122 => ?_) (fun c_122 => ?_)
            · have e := e.trans (if_pos c_122)
              refine lv_iinc (v := x5 + 1) (lv' := [(5, .int (x5 + 1)), (0, .int p0), (1, .int p1), (2, .ref (la 0)), (3, .ref (la 2)), (4, .int x4), (6, .int x6), (7, .int x7), (8, .int x8)]) hx hb dL_spreads_157 hl (k := 5) rfl rfl (by decide) rfl (fun ls hl => ?_)
              refine lv_goto (tgt := 6) hx hb dL_spreads_160 (by decide) ?_
              exact ih_6 x4 (x5 + 1) _ _ _  hP hD hS (lv_sub hl [1, 2, 3, 4, 5, 0] rfl) e
            · have e := e.trans (if_neg c_122)
              refine lv_iload hx hb dL_spreads_125 (lv_at hl 4 rfl) ?_
              refine lv_iload_n hx hb dL_spreads_127 rfl (lv_at hl 0 rfl) ?_
              refine lv_iload hx hb dL_spreads_128 (lv_at hl 8 rfl) ?_
              refine lv_ishr hx hb dL_spreads_130 ?_
              refine lv_iconst (v := 1) hx hb dL_spreads_131 (by decide) ?_
              refine lv_iand hx hb dL_spreads_132 ?_
              refine lv_iconst (v := 1) hx hb dL_spreads_133 (by decide) ?_
              refine lv_icmp_ne (tgt := 147) hx hb dL_spreads_134 (by decide) (fun c_134 => ?_) (fun c_134 => ?_)
              · have e := e.trans (if_neg c_134)
                refine lv_iconst (v := 0) hx hb dL_spreads_147 (by decide) ?_
                exact hb_148 x5 x6 x7 x8 x4 0 _ _ _  hP hD hS (lv_sub hl [0, 1, 2, 3, 5, 6, 7, 8] rfl) e
              · have e := e.trans (if_pos c_134)
                refine lv_iconst (v := 1) hx hb dL_spreads_137 (by decide) ?_
                refine lv_iload hx hb dL_spreads_138 (lv_at hl 8 rfl) ?_
                refine lv_iload hx hb dL_spreads_140 (lv_at hl 7 rfl) ?_
                refine lv_ior hx hb dL_spreads_142 ?_
                refine lv_ishl hx hb dL_spreads_143 ?_
                refine lv_goto (tgt := 148) hx hb dL_spreads_144 (by decide) ?_
                exact hb_148 x5 x6 x7 x8 x4 (1 <<< ((x8 ||| x7) &&& 31)) _ _ _  hP hD hS (lv_sub hl [0, 1, 2, 3, 5, 6, 7, 8] rfl) e
      have hb_22 : ∀ (n_22 : Nat), ∀ (x4 : Int32) (x5 : Int32) (x6 : Int32) (x7 : Int32) (x8 : Int32) (H : Heap) (locs : List Loc) (ls : Array Slot), va_P D vwCl (kv_lw ci la lm lp lr lq) H → va_D A (kv_lw ci la lm lp lr lq) → va_S A s.heap H locs → lv_has ls 10 [(0, .int p0), (1, .int p1), (2, .ref (la 0)), (3, .ref (la 2)), (4, .int x4), (5, .int x5), (6, .int x6), (7, .int x7), (8, .int x8)] → Rz = pf_L_spreads_22 lm lr p0 p1 (pf_L_spreads_6 lm lr p0 p1  n_6) n_22 x4 x5 x6 x7 x8 → W p l en rmL_spreads s m args below meth c H locs 0 0 Q (F0 m 22 ls []) := by
        intro n_22
        induction n_22 with
        | zero =>
          intro x4 x5 x6 x7 x8 H locs ls  _ _ _ _ e
          exact absurd e hRz
        | succ n_22 ih_22 =>
          have hb_80 : ∀ (x4 : Int32) (x5 : Int32) (x7 : Int32) (x8 : Int32) (z0 : Int32) (z1 : Int32) (H : Heap) (locs : List Loc) (ls : Array Slot), va_P D vwCl (kv_lw ci la lm lp lr lq) H → va_D A (kv_lw ci la lm lp lr lq) → va_S A s.heap H locs → lv_has ls 10 [(0, .int p0), (1, .int p1), (2, .ref (la 0)), (3, .ref (la 2)), (4, .int x4), (5, .int x5), (7, .int x7), (8, .int x8)] → Rz = pf_L_spreads_80 lm lr p0 p1 (pf_L_spreads_6 lm lr p0 p1  n_6) (pf_L_spreads_22 lm lr p0 p1 (pf_L_spreads_6 lm lr p0 p1  n_6) n_22) x4 x5 x7 x8 z0 z1 → W p l en rmL_spreads s m args below meth c H locs 0 0 Q (F0 m 80 ls [.int z1, .int z0]) := by
            intro x4 x5 x7 x8 z0 z1 H locs ls  hP hD hS hl e
            rw [pf_L_spreads_80] at e
            refine lv_iadd hx hb dL_spreads_80 ?_
            refine lv_topi (fun y_81 ey_81 => ?_)
            have e := kv_T_e e ey_81
            refine lv_istore (lv' := [(6, .int y_81), (0, .int p0), (1, .int p1), (2, .ref (la 0)), (3, .ref (la 2)), (4, .int x4), (5, .int x5), (7, .int x7), (8, .int x8)]) hx hb dL_spreads_81 hl (by decide) rfl (fun ls hl => ?_)
            refine lv_iload hx hb dL_spreads_83 (lv_at hl 7 rfl) ?_
            refine lv_iload_n hx hb dL_spreads_85 rfl (lv_at hl 2 rfl) ?_
            refine lv_iload hx hb dL_spreads_86 (lv_at hl 8 rfl) ?_
            refine lv_aload_n hx hb dL_spreads_88 rfl (lv_at hl 3 rfl) ?_
            refine lv_aload_n hx hb dL_spreads_89 rfl (lv_at hl 4 rfl) ?_
            refine kv_calli (va_runS (As := [.int p1, .int x8, .ref (la 0), .ref (la 2)]) (rest := [.int x7]) ⟨hx, hb, hml, hown, hts⟩ (c_L_covers l D ci la lm lp lr lq p1 x8 (kv_q1_n e hRz) H.size) (va_cwS 4 hts gL_spreads_L_covers rfl rfl rfl (by decide +kernel) ⟨Nat.le_of_ble_eq_true rfl, Nat.le_of_ble_eq_true rfl⟩) (kv_preS hK hP hD) rfl rfl hl.1 rfl (lv_room (Nat.le_of_ble_eq_true rfl)) dL_spreads_90 ⟨Nat.le_of_ble_eq_true rfl, Nat.le_of_ble_eq_true rfl⟩) hD hS hA (fun r_90 u_90 H locs hw_90 hP hD hS => ?_)
            have e := kv_q1_e e hw_90
            refine lv_ior hx hb dL_spreads_93 ?_
            refine lv_topi (fun y_94 ey_94 => ?_)
            have e := kv_T_e e ey_94
            refine lv_istore (lv' := [(7, .int y_94), (6, .int y_81), (0, .int p0), (1, .int p1), (2, .ref (la 0)), (3, .ref (la 2)), (4, .int x4), (5, .int x5), (8, .int x8)]) hx hb dL_spreads_94 hl (by decide) rfl (fun ls hl => ?_)
            refine lv_iinc (v := x8 + 1) (lv' := [(8, .int (x8 + 1)), (7, .int y_94), (6, .int y_81), (0, .int p0), (1, .int p1), (2, .ref (la 0)), (3, .ref (la 2)), (4, .int x4), (5, .int x5)]) hx hb dL_spreads_96 hl (k := 8) rfl rfl (by decide) rfl (fun ls hl => ?_)
            refine lv_goto (tgt := 22) hx hb dL_spreads_99 (by decide) ?_
            exact ih_22 x4 x5 y_81 y_94 (x8 + 1) _ _ _  hP hD hS (lv_sub hl [3, 4, 5, 6, 7, 8, 2, 1, 0] rfl) e
          have hb_59 : ∀ (x4 : Int32) (x5 : Int32) (x6 : Int32) (x7 : Int32) (x8 : Int32) (z0 : Int32) (H : Heap) (locs : List Loc) (ls : Array Slot), va_P D vwCl (kv_lw ci la lm lp lr lq) H → va_D A (kv_lw ci la lm lp lr lq) → va_S A s.heap H locs → lv_has ls 10 [(0, .int p0), (1, .int p1), (2, .ref (la 0)), (3, .ref (la 2)), (4, .int x4), (5, .int x5), (6, .int x6), (7, .int x7), (8, .int x8)] → Rz = pf_L_spreads_59 lm lr p0 p1 (pf_L_spreads_6 lm lr p0 p1  n_6) (pf_L_spreads_22 lm lr p0 p1 (pf_L_spreads_6 lm lr p0 p1  n_6) n_22) x4 x5 x6 x7 x8 z0 → W p l en rmL_spreads s m args below meth c H locs 0 0 Q (F0 m 59 ls [.int z0]) := by
            intro x4 x5 x6 x7 x8 z0 H locs ls  hP hD hS hl e
            rw [pf_L_spreads_59] at e
            refine lv_istore (lv' := [(9, .int z0), (0, .int p0), (1, .int p1), (2, .ref (la 0)), (3, .ref (la 2)), (4, .int x4), (5, .int x5), (6, .int x6), (7, .int x7), (8, .int x8)]) hx hb dL_spreads_59 hl (by decide) rfl (fun ls hl => ?_)
            refine lv_iload hx hb dL_spreads_61 (lv_at hl 7 rfl) ?_
            refine lv_aload_n hx hb dL_spreads_63 rfl (lv_at hl 4 rfl) ?_
            refine lv_bipush (v := 6) hx hb dL_spreads_64 (by decide) ?_
            refine lv_iload_n hx hb dL_spreads_66 rfl (lv_at hl 2 rfl) ?_
            refine lv_imul hx hb dL_spreads_67 ?_
            refine lv_iconst (v := 1) hx hb dL_spreads_68 (by decide) ?_
            refine lv_iadd hx hb dL_spreads_69 ?_
            obtain ⟨hi_70, e⟩ := kv_G_e e hRz
            refine kv_iald hx hb hK hP 2 0 hi_70 dL_spreads_70 rfl rfl (fun y_70 ey_70 => ?_)
            have e := kv_T_e e ey_70
            refine lv_if_ne (tgt := 78) hx hb dL_spreads_71 (by decide) (fun c_71 => ?_) (fun c_71 => ?_)
            · have e := e.trans (if_neg c_71)
              refine lv_iload hx hb dL_spreads_78 (lv_at hl 0 rfl) ?_
              exact hb_80 x4 x5 x7 x8 x6 z0 _ _ _  hP hD hS (lv_sub hl [1, 2, 3, 4, 5, 6, 8, 9] rfl) e
            · have e := e.trans (if_pos c_71)
              refine lv_iconst (v := 1) hx hb dL_spreads_74 (by decide) ?_
              refine lv_goto (tgt := 80) hx hb dL_spreads_75 (by decide) ?_
              exact hb_80 x4 x5 x7 x8 x6 1 _ _ _  hP hD hS (lv_sub hl [1, 2, 3, 4, 5, 6, 8, 9] rfl) e
          intro x4 x5 x6 x7 x8 H locs ls  hP hD hS hl e
          rw [pf_L_spreads_22, pf_L_spreads_22b] at e
          refine lv_iload hx hb dL_spreads_22 (lv_at hl 8 rfl) ?_
          refine lv_iconst (v := 5) hx hb dL_spreads_24 (by decide) ?_
          refine lv_icmp_ge (tgt := 102) hx hb dL_spreads_25 (by decide) (fun c_25 => ?_) (fun c_25 => ?_)
          · have e := e.trans (if_pos c_25)
            refine lv_iconst (v := 0) hx hb dL_spreads_102 (by decide) ?_
            refine lv_istore (lv' := [(8, .int 0), (0, .int p0), (1, .int p1), (2, .ref (la 0)), (3, .ref (la 2)), (4, .int x4), (5, .int x5), (6, .int x6), (7, .int x7)]) hx hb dL_spreads_103 hl (by decide) rfl (fun ls hl => ?_)
            exact hb_105 kv_F x4 x5 x6 x7 0 _ _ _  hP hD hS (lv_sub hl [1, 2, 3, 4, 5, 6, 7, 8, 0] rfl) e
          · have e := e.trans (if_neg c_25)
            refine lv_iload hx hb dL_spreads_28 (lv_at hl 5 rfl) ?_
            refine lv_iload hx hb dL_spreads_30 (lv_at hl 8 rfl) ?_
            refine lv_ishr hx hb dL_spreads_32 ?_
            refine lv_iconst (v := 1) hx hb dL_spreads_33 (by decide) ?_
            refine lv_iand hx hb dL_spreads_34 ?_
            refine lv_iconst (v := 1) hx hb dL_spreads_35 (by decide) ?_
            refine lv_icmp_ne (tgt := 96) hx hb dL_spreads_36 (by decide) (fun c_36 => ?_) (fun c_36 => ?_)
            · have e := e.trans (if_neg c_36)
              refine lv_iinc (v := x8 + 1) (lv' := [(8, .int (x8 + 1)), (0, .int p0), (1, .int p1), (2, .ref (la 0)), (3, .ref (la 2)), (4, .int x4), (5, .int x5), (6, .int x6), (7, .int x7)]) hx hb dL_spreads_96 hl (k := 8) rfl rfl (by decide) rfl (fun ls hl => ?_)
              refine lv_goto (tgt := 22) hx hb dL_spreads_99 (by decide) ?_
              exact ih_22 x4 x5 x6 x7 (x8 + 1) _ _ _  hP hD hS (lv_sub hl [1, 2, 3, 4, 5, 6, 7, 8, 0] rfl) e
            · have e := e.trans (if_pos c_36)
              refine lv_aload_n hx hb dL_spreads_39 rfl (lv_at hl 2 rfl) ?_
              refine lv_iconst (v := 4) hx hb dL_spreads_40 (by decide) ?_
              refine lv_iload hx hb dL_spreads_41 (lv_at hl 8 rfl) ?_
              refine lv_imul hx hb dL_spreads_43 ?_
              obtain ⟨hi_44, e⟩ := kv_G_e e hRz
              refine kv_iald hx hb hK hP 0 0 hi_44 dL_spreads_44 rfl rfl (fun y_44 ey_44 => ?_)
              have e := kv_T_e e ey_44
              refine lv_iconst (v := 4) hx hb dL_spreads_45 (by decide) ?_
              refine lv_icmp_le (tgt := 58) hx hb dL_spreads_46 (by decide) (fun c_46 => ?_) (fun c_46 => ?_)
              · have e := e.trans (if_pos c_46)
                refine lv_iconst (v := 4) hx hb dL_spreads_58 (by decide) ?_
                exact hb_59 x4 x5 x6 x7 x8 4 _ _ _  hP hD hS (lv_sub hl [0, 1, 2, 3, 4, 5, 6, 7, 8] rfl) e
              · have e := e.trans (if_neg c_46)
                refine lv_aload_n hx hb dL_spreads_49 rfl (lv_at hl 2 rfl) ?_
                refine lv_iconst (v := 4) hx hb dL_spreads_50 (by decide) ?_
                refine lv_iload hx hb dL_spreads_51 (lv_at hl 8 rfl) ?_
                refine lv_imul hx hb dL_spreads_53 ?_
                obtain ⟨hi_54, e⟩ := kv_G_e e hRz
                refine kv_iald hx hb hK hP 0 0 hi_54 dL_spreads_54 rfl rfl (fun y_54 ey_54 => ?_)
                have e := kv_T_e e ey_54
                refine lv_goto (tgt := 59) hx hb dL_spreads_55 (by decide) ?_
                exact hb_59 x4 x5 x6 x7 x8 y_54 _ _ _  hP hD hS (lv_sub hl [0, 1, 2, 3, 4, 5, 6, 7, 8] rfl) e
      intro x4 x5 H locs ls  hP hD hS hl e
      rw [pf_L_spreads_6, pf_L_spreads_6b] at e
      refine lv_iload hx hb dL_spreads_6 (lv_at hl 5 rfl) ?_
      refine lv_bipush (v := 32) hx hb dL_spreads_8 (by decide) ?_
      refine lv_icmp_ge (tgt := 163) hx hb dL_spreads_10 (by decide) (fun c_10 => ?_) (fun c_10 => ?_)
      · have e := e.trans (if_pos c_10)
        refine lv_iload hx hb dL_spreads_163 (lv_at hl 4 rfl) ?_
        rw [hQ]
        exact W.iret (v := x4) hx hb hr (fun t ht hW => ⟨⟨x4, (), rfl, e, ⟨by rw [ht]; exact hP, by rw [hAe]; exact hD⟩⟩, hS.F ht⟩) hS.2.2 dL_spreads_165
      · have e := e.trans (if_neg c_10)
        refine lv_iconst (v := 0) hx hb dL_spreads_13 (by decide) ?_
        refine lv_istore (lv' := [(6, .int 0), (0, .int p0), (1, .int p1), (2, .ref (la 0)), (3, .ref (la 2)), (4, .int x4), (5, .int x5)]) hx hb dL_spreads_14 hl (by decide) rfl (fun ls hl => ?_)
        refine lv_iconst (v := 0) hx hb dL_spreads_16 (by decide) ?_
        refine lv_istore (lv' := [(7, .int 0), (6, .int 0), (0, .int p0), (1, .int p1), (2, .ref (la 0)), (3, .ref (la 2)), (4, .int x4), (5, .int x5)]) hx hb dL_spreads_17 hl (by decide) rfl (fun ls hl => ?_)
        refine lv_iconst (v := 0) hx hb dL_spreads_19 (by decide) ?_
        refine lv_istore (lv' := [(8, .int 0), (7, .int 0), (6, .int 0), (0, .int p0), (1, .int p1), (2, .ref (la 0)), (3, .ref (la 2)), (4, .int x4), (5, .int x5)]) hx hb dL_spreads_20 hl (by decide) rfl (fun ls hl => ?_)
        exact hb_22 kv_F x4 x5 0 0 0 _ _ _  hP hD hS (lv_sub hl [3, 4, 5, 6, 7, 8, 2, 1, 0] rfl) e
  refine lv_iconst (v := 0) hx hb dL_spreads_0 (by decide) ?_
  refine lv_istore (lv' := [(4, .int 0), (0, .int p0), (1, .int p1), (2, .ref (la 0)), (3, .ref (la 2))]) hx hb dL_spreads_1 hl (by decide) rfl (fun ls hl => ?_)
  refine lv_iconst (v := 0) hx hb dL_spreads_3 (by decide) ?_
  refine lv_istore (lv' := [(5, .int 0), (4, .int 0), (0, .int p0), (1, .int p1), (2, .ref (la 0)), (3, .ref (la 2))]) hx hb dL_spreads_4 hl (by decide) rfl (fun ls hl => ?_)
  exact hb_6 kv_F 0 0 _ _ _  hP hD hS (lv_sub hl [2, 3, 4, 5, 1, 0] rfl) e

def pf_L_gap_249 (lm : Nat → Int32) (lp : Nat → Int32) (lr : Nat → Int32) (p0 : Int32) (k_56 : Int32 → Int32 → Int32 → (Nat → Int32) → Option (Int32 × (Nat → Int32))) (x5 : Int32) (x6 : Int32) (x7 : Int32) (z1 : Int32) (z2 : Int32) (lq : Nat → Int32) : Option (Int32 × (Nat → Int32)) :=
  kv_G z1 3 (kv_T (upd lq z1.toNatClampNeg z2) (fun g_249 => k_56 x5 x6 (x7 + (-1)) g_249))
def pf_L_gap_230 (lm : Nat → Int32) (lp : Nat → Int32) (lr : Nat → Int32) (p0 : Int32) (k_56 : Int32 → Int32 → Int32 → (Nat → Int32) → Option (Int32 × (Nat → Int32))) (x5 : Int32) (x7 : Int32) (x9 : Int32) (x11 : Int32) (z0 : Int32) (lq : Nat → Int32) : Option (Int32 × (Nat → Int32)) :=
  if x11 = 0 then kv_G (2 : Int32) 3 (kv_T (lq (2 : Int32).toNatClampNeg) (fun y_248 => pf_L_gap_249 lm lp lr p0 k_56 x5 z0 x7 2 y_248 lq)) else pf_L_gap_249 lm lp lr p0 k_56 x5 z0 x7 2 x9 lq
def pf_L_gap_216 (lm : Nat → Int32) (lp : Nat → Int32) (lr : Nat → Int32) (p0 : Int32) (k_56 : Int32 → Int32 → Int32 → (Nat → Int32) → Option (Int32 × (Nat → Int32))) (x5 : Int32) (x6 : Int32) (x7 : Int32) (x8 : Int32) (x9 : Int32) (z0 : Int32) (lq : Nat → Int32) : Option (Int32 × (Nat → Int32)) :=
  if z0 = 0 then pf_L_gap_230 lm lp lr p0 k_56 x5 x7 x9 z0 x6 lq else pf_L_gap_230 lm lp lr p0 k_56 x5 x7 x9 z0 x8 lq
def pf_L_gap_181 (lm : Nat → Int32) (lp : Nat → Int32) (lr : Nat → Int32) (p0 : Int32) (k_56 : Int32 → Int32 → Int32 → (Nat → Int32) → Option (Int32 × (Nat → Int32))) (x5 : Int32) (x6 : Int32) (x7 : Int32) (x8 : Int32) (x9 : Int32) (z0 : Int32) (lq : Nat → Int32) : Option (Int32 × (Nat → Int32)) :=
  if z0 = 0 then pf_L_gap_216 lm lp lr p0 k_56 x5 x6 x7 x8 x9 0 lq else if x8 < x6 then pf_L_gap_216 lm lp lr p0 k_56 x5 x6 x7 x8 x9 1 lq else if x8 = x6 then kv_G (2 : Int32) 3 (kv_T (lq (2 : Int32).toNatClampNeg) (fun y_207 => if y_207 ≤ x9 then pf_L_gap_216 lm lp lr p0 k_56 x5 x6 x7 x8 x9 0 lq else pf_L_gap_216 lm lp lr p0 k_56 x5 x6 x7 x8 x9 1 lq)) else pf_L_gap_216 lm lp lr p0 k_56 x5 x6 x7 x8 x9 0 lq
def pf_L_gap_153 (lm : Nat → Int32) (lp : Nat → Int32) (lr : Nat → Int32) (p0 : Int32) (k_56 : Int32 → Int32 → Int32 → (Nat → Int32) → Option (Int32 × (Nat → Int32))) (k_70 : Int32 → Int32 → Int32 → Int32 → Int32 → Int32 → (Nat → Int32) → Option (Int32 × (Nat → Int32))) (x5 : Int32) (x6 : Int32) (x7 : Int32) (x8 : Int32) (x10 : Int32) (z0 : Int32) (z1 : Int32) (lq : Nat → Int32) : Option (Int32 × (Nat → Int32)) :=
  kv_T (z0 + z1) (fun y_154 => k_70 x5 x6 x7 x8 y_154 (x10 + 1) lq)
def pf_L_gap_132 (lm : Nat → Int32) (lp : Nat → Int32) (lr : Nat → Int32) (p0 : Int32) (k_56 : Int32 → Int32 → Int32 → (Nat → Int32) → Option (Int32 × (Nat → Int32))) (k_70 : Int32 → Int32 → Int32 → Int32 → Int32 → Int32 → (Nat → Int32) → Option (Int32 × (Nat → Int32))) (x5 : Int32) (x6 : Int32) (x7 : Int32) (x9 : Int32) (x10 : Int32) (x11 : Int32) (z0 : Int32) (z1 : Int32) (lq : Nat → Int32) : Option (Int32 × (Nat → Int32)) :=
  kv_T (z0 + z1) (fun y_133 => if x11 = 0 then pf_L_gap_153 lm lp lr p0 k_56 k_70 x5 x6 x7 y_133 x10 x9 0 lq else pf_L_gap_153 lm lp lr p0 k_56 k_70 x5 x6 x7 y_133 x10 x9 (x7 &&& (1 <<< (x10 &&& 31))) lq)
def pf_L_gap_94 (lm : Nat → Int32) (lp : Nat → Int32) (lr : Nat → Int32) (p0 : Int32) (k_56 : Int32 → Int32 → Int32 → (Nat → Int32) → Option (Int32 × (Nat → Int32))) (k_70 : Int32 → Int32 → Int32 → Int32 → Int32 → Int32 → (Nat → Int32) → Option (Int32 × (Nat → Int32))) (x5 : Int32) (x6 : Int32) (x7 : Int32) (x8 : Int32) (x9 : Int32) (x10 : Int32) (z0 : Int32) (lq : Nat → Int32) : Option (Int32 × (Nat → Int32)) :=
  if z0 = 0 then pf_L_gap_132 lm lp lr p0 k_56 k_70 x5 x6 x7 x9 x10 z0 x8 0 lq else if ((x7 >>> (x10 &&& 31)) &&& 1) = 1 then kv_G (4 * x10) 20 (kv_T (lm (4 * x10).toNatClampNeg) (fun y_119 => kv_G ((2 * p0) + 1) 4 (kv_T (lp ((2 * p0) + 1).toNatClampNeg) (fun y_126 => pf_L_gap_132 lm lp lr p0 k_56 k_70 x5 x6 x7 x9 x10 z0 x8 (y_119 * y_126) lq)))) else pf_L_gap_132 lm lp lr p0 k_56 k_70 x5 x6 x7 x9 x10 z0 x8 0 lq
def pf_L_gap_70b (lm : Nat → Int32) (lp : Nat → Int32) (lr : Nat → Int32) (p0 : Int32) (k_56 : Int32 → Int32 → Int32 → (Nat → Int32) → Option (Int32 × (Nat → Int32))) (k_70 : Int32 → Int32 → Int32 → Int32 → Int32 → Int32 → (Nat → Int32) → Option (Int32 × (Nat → Int32))) (x5 : Int32) (x6 : Int32) (x7 : Int32) (x8 : Int32) (x9 : Int32) (x10 : Int32) (lq : Nat → Int32) : Option (Int32 × (Nat → Int32)) :=
  if 5 ≤ x10 then if ((x5 >>> ((31 - x7) &&& 31)) &&& 1) = 1 then pf_L_gap_181 lm lp lr p0 k_56 x5 x6 x7 x8 x9 1 lq else pf_L_gap_181 lm lp lr p0 k_56 x5 x6 x7 x8 x9 0 lq else kv_G (((4 * x10) + 2) + p0) 20 (kv_T (lm (((4 * x10) + 2) + p0).toNatClampNeg) (fun y_85 => if y_85 ≤ 0 then pf_L_gap_94 lm lp lr p0 k_56 k_70 x5 x6 x7 x8 x9 x10 0 lq else pf_L_gap_94 lm lp lr p0 k_56 k_70 x5 x6 x7 x8 x9 x10 1 lq))
def pf_L_gap_70 (lm : Nat → Int32) (lp : Nat → Int32) (lr : Nat → Int32) (p0 : Int32) (k_56 : Int32 → Int32 → Int32 → (Nat → Int32) → Option (Int32 × (Nat → Int32))) : Nat → Int32 → Int32 → Int32 → Int32 → Int32 → Int32 → (Nat → Int32) → Option (Int32 × (Nat → Int32))
  | 0, _, _, _, _, _, _, _ => none
  | nn + 1, x5, x6, x7, x8, x9, x10, lq => pf_L_gap_70b lm lp lr p0 k_56 (pf_L_gap_70 lm lp lr p0 k_56 nn) x5 x6 x7 x8 x9 x10 lq
def pf_L_gap_56b (lm : Nat → Int32) (lp : Nat → Int32) (lr : Nat → Int32) (p0 : Int32)  (k_56 : Int32 → Int32 → Int32 → (Nat → Int32) → Option (Int32 × (Nat → Int32))) (x5 : Int32) (x6 : Int32) (x7 : Int32) (lq : Nat → Int32) : Option (Int32 × (Nat → Int32)) :=
  if x7 < 0 then some (x6, lq) else pf_L_gap_70 lm lp lr p0 k_56 kv_F x5 x6 x7 0 0 0 lq
def pf_L_gap_56 (lm : Nat → Int32) (lp : Nat → Int32) (lr : Nat → Int32) (p0 : Int32)  : Nat → Int32 → Int32 → Int32 → (Nat → Int32) → Option (Int32 × (Nat → Int32))
  | 0, _, _, _, _ => none
  | nn + 1, x5, x6, x7, lq => pf_L_gap_56b lm lp lr p0  (pf_L_gap_56 lm lp lr p0  nn) x5 x6 x7 lq
def pf_L_gap_40 (lm : Nat → Int32) (lp : Nat → Int32) (lr : Nat → Int32) (p0 : Int32) (k_6 : Int32 → Int32 → (Nat → Int32) → Option (Int32 × (Nat → Int32))) (x6 : Int32) (z0 : Int32) (lq : Nat → Int32) : Option (Int32 × (Nat → Int32)) :=
  k_6 z0 (x6 + 1) lq
def pf_L_gap_6b (lm : Nat → Int32) (lp : Nat → Int32) (lr : Nat → Int32) (p0 : Int32)  (k_6 : Int32 → Int32 → (Nat → Int32) → Option (Int32 × (Nat → Int32))) (x5 : Int32) (x6 : Int32) (lq : Nat → Int32) : Option (Int32 × (Nat → Int32)) :=
  kv_G (1 : Int32) 3 (kv_T (lq (1 : Int32).toNatClampNeg) (fun y_11 => if y_11 ≤ x6 then pf_L_gap_56 lm lp lr p0 kv_F x5 1073741824 31 lq else kv_G (6 * x6) 60 (kv_T (lr (6 * x6).toNatClampNeg) (fun y_21 => if y_21 = p0 then kv_q1 (pf_L_spreads lm lr x5 x6) (fun r_32 => pf_L_gap_40 lm lp lr p0 k_6 x6 r_32 lq) else pf_L_gap_40 lm lp lr p0 k_6 x6 x5 lq))))
def pf_L_gap_6 (lm : Nat → Int32) (lp : Nat → Int32) (lr : Nat → Int32) (p0 : Int32)  : Nat → Int32 → Int32 → (Nat → Int32) → Option (Int32 × (Nat → Int32))
  | 0, _, _, _ => none
  | nn + 1, x5, x6, lq => pf_L_gap_6b lm lp lr p0  (pf_L_gap_6 lm lp lr p0  nn) x5 x6 lq
def pf_L_gap (lm : Nat → Int32) (lp : Nat → Int32) (lr : Nat → Int32) (p0 : Int32) (lq : Nat → Int32) : Option (Int32 × (Nat → Int32)) :=
  pf_L_gap_6 lm lp lr p0 kv_F 1 0 lq
abbrev rmL_gap : Room := { frames := 2, cells := 0, slots := 0, locals := 56 }
set_option maxHeartbeats 4000000 in
set_option maxRecDepth 100000 in
theorem c_L_gap (l : Launch) (D : va_G) (ci la : Nat → Nat) (lm : Nat → Int32) (lp : Nat → Int32) (lr : Nat → Int32) (lq : Nat → Int32) (p0 : Int32)  (hRn : pf_L_gap lm lp lr p0 lq ≠ none) (sz : Nat) : Met l yL_gap wsL_gap rmL_gap (va_Pc [.int p0, .ref (la 0), .ref (la 1), .ref (la 2), .ref (la 3)] (kv_pre D ci (kv_lw ci la lm lp lr lq) sz)) (va_Qi (fun (r : Int32) (u : (Nat → Int32)) => pf_L_gap lm lp lr p0 lq = some (r, u)) (fun u t => kv_post D (kv_lw ci la lm lp lr lq) sz (kv_lw ci la lm lp lr u) t) (va_A (kv_lw ci la lm lp lr lq) sz)) 0 0 (va_A (kv_lw ci la lm lp lr lq) sz) := by
  refine Met.ofW (cc := cL_gap) (maxL := 12) (ret := (some .int)) (by decide) rfl ?_
  intro p en s m args below meth c s₁ B hml hv
  obtain ⟨hv0, hsz, hP, hK, hD0⟩ := hv
  have hx := B.exec
  have hb := B.bytes
  have hr := B.returns
  have hts := atoms_spec (ws := wsL_gap) B.pre
  have hown : s.vm.findClass RL = some m.cls := findClass_of_methodNamed B.named
  have hlocks := B.notSynchronized
  subst hsz
  have hD := hD0.self (sz := s.heap.size)
  generalize hAe : va_A (kv_lw ci la lm lp lr lq) s.heap.size = A at hD ⊢
  have hA : ∀ q : Nat, s.heap.size ≤ q → A q := fun q h => by rw [← hAe]; exact Or.inr h
  have hS : va_S A s.heap s.heap [] := va_S.rf
  have hP : va_P D vwCl (kv_lw ci la lm lp lr lq) s.heap := hP
  generalize hRd : pf_L_gap lm lp lr p0 lq = Rz at hRn
  have hRz := hRn
  refine kv_Q (fun Q hQ => ?_)
  refine W.eq (show entryFrame m args 12 = _ from by rw [hv0, lg_entry_eq]) ?_
  have hl := lv_entry ([.int p0, .ref (la 0), .ref (la 1), .ref (la 2), .ref (la 3)]) (n := 12) (Nat.le_of_ble_eq_true rfl)
  generalize (lg_sl ([.int p0, .ref (la 0), .ref (la 1), .ref (la 2), .ref (la 3)]) ++ List.replicate (12 - (lg_sl ([.int p0, .ref (la 0), .ref (la 1), .ref (la 2), .ref (la 3)])).length) Slot.unset).toArray = ls at hl ⊢
  have hl : lv_has ls 12 [(0, .int p0), (1, .ref (la 0)), (2, .ref (la 1)), (3, .ref (la 2)), (4, .ref (la 3))] := hl
  have e : Rz = pf_L_gap lm lp lr p0 lq := hRd.symm
  rw [pf_L_gap] at e
  have hb_56 : ∀ (n_56 : Nat), ∀ (x5 : Int32) (x6 : Int32) (x7 : Int32) (lq : Nat → Int32) (H : Heap) (locs : List Loc) (ls : Array Slot), va_P D vwCl (kv_lw ci la lm lp lr lq) H → va_D A (kv_lw ci la lm lp lr lq) → va_S A s.heap H locs → lv_has ls 12 [(0, .int p0), (1, .ref (la 0)), (2, .ref (la 1)), (4, .ref (la 3)), (5, .int x5), (6, .int x6), (7, .int x7)] → Rz = pf_L_gap_56 lm lp lr p0  n_56 x5 x6 x7 lq → W p l en rmL_gap s m args below meth c H locs 0 0 Q (F0 m 56 ls []) := by
    intro n_56
    induction n_56 with
    | zero =>
      intro x5 x6 x7 lq H locs ls  _ _ _ _ e
      exact absurd e hRz
    | succ n_56 ih_56 =>
      have hb_249 : ∀ (x5 : Int32) (x6 : Int32) (x7 : Int32) (z1 : Int32) (z2 : Int32) (lq : Nat → Int32) (H : Heap) (locs : List Loc) (ls : Array Slot), va_P D vwCl (kv_lw ci la lm lp lr lq) H → va_D A (kv_lw ci la lm lp lr lq) → va_S A s.heap H locs → lv_has ls 12 [(0, .int p0), (1, .ref (la 0)), (2, .ref (la 1)), (4, .ref (la 3)), (5, .int x5), (6, .int x6), (7, .int x7)] → Rz = pf_L_gap_249 lm lp lr p0 (pf_L_gap_56 lm lp lr p0  n_56) x5 x6 x7 z1 z2 lq → W p l en rmL_gap s m args below meth c H locs 0 0 Q (F0 m 249 ls [.int z2, .int z1, .ref (la 3)]) := by
        intro x5 x6 x7 z1 z2 lq H locs ls  hP hD hS hl e
        rw [pf_L_gap_249] at e
        obtain ⟨hi_249, e⟩ := kv_G_e e hRz
        refine kv_iast hx hb hK hP hD hS 3 0 (fun g_249 => (kv_lw ci la lm lp lr g_249)) hi_249 dL_gap_249 rfl rfl (fun _ => rfl) (fun g_249 H locs eg_249 hP hD hS => ?_)
        have e := kv_T_e e eg_249
        refine lv_iinc (v := x7 + (-1)) (lv' := [(7, .int (x7 + (-1))), (0, .int p0), (1, .ref (la 0)), (2, .ref (la 1)), (4, .ref (la 3)), (5, .int x5), (6, .int x6)]) hx hb dL_gap_250 hl (k := 6) rfl rfl (by decide) rfl (fun ls hl => ?_)
        refine lv_goto (tgt := 56) hx hb dL_gap_253 (by decide) ?_
        exact ih_56 x5 x6 (x7 + (-1)) g_249 _ _ _  hP hD hS (lv_sub hl [1, 2, 3, 4, 5, 6, 0] rfl) e
      have hb_230 : ∀ (x5 : Int32) (x7 : Int32) (x9 : Int32) (x11 : Int32) (z0 : Int32) (lq : Nat → Int32) (H : Heap) (locs : List Loc) (ls : Array Slot), va_P D vwCl (kv_lw ci la lm lp lr lq) H → va_D A (kv_lw ci la lm lp lr lq) → va_S A s.heap H locs → lv_has ls 12 [(0, .int p0), (1, .ref (la 0)), (2, .ref (la 1)), (4, .ref (la 3)), (5, .int x5), (7, .int x7), (9, .int x9), (11, .int x11)] → Rz = pf_L_gap_230 lm lp lr p0 (pf_L_gap_56 lm lp lr p0  n_56) x5 x7 x9 x11 z0 lq → W p l en rmL_gap s m args below meth c H locs 0 0 Q (F0 m 230 ls [.int z0]) := by
        intro x5 x7 x9 x11 z0 lq H locs ls  hP hD hS hl e
        rw [pf_L_gap_230] at e
        refine lv_istore (lv' := [(6, .int z0), (0, .int p0), (1, .ref (la 0)), (2, .ref (la 1)), (4, .ref (la 3)), (5, .int x5), (7, .int x7), (9, .int x9), (11, .int x11)]) hx hb dL_gap_230 hl (by decide) rfl (fun ls hl => ?_)
        refine lv_aload hx hb dL_gap_232 (lv_at hl 4 rfl) ?_
        refine lv_iconst (v := 2) hx hb dL_gap_234 (by decide) ?_
        refine lv_iload hx hb dL_gap_235 (lv_at hl 8 rfl) ?_
        refine lv_if_eq (tgt := 245) hx hb dL_gap_237 (by decide) (fun c_237 => ?_) (fun c_237 => ?_)
        · have e := e.trans (if_pos c_237)
          refine lv_aload hx hb dL_gap_245 (lv_at hl 4 rfl) ?_
          refine lv_iconst (v := 2) hx hb dL_gap_247 (by decide) ?_
          obtain ⟨hi_248, e⟩ := kv_G_e e hRz
          refine kv_iald hx hb hK hP 3 0 hi_248 dL_gap_248 rfl rfl (fun y_248 ey_248 => ?_)
          have e := kv_T_e e ey_248
          exact hb_249 x5 z0 x7 2 y_248 lq _ _ _  hP hD hS (lv_sub hl [1, 2, 3, 4, 5, 0, 6] rfl) e
        · have e := e.trans (if_neg c_237)
          refine lv_iload hx hb dL_gap_240 (lv_at hl 7 rfl) ?_
          refine lv_goto (tgt := 249) hx hb dL_gap_242 (by decide) ?_
          exact hb_249 x5 z0 x7 2 x9 lq _ _ _  hP hD hS (lv_sub hl [1, 2, 3, 4, 5, 0, 6] rfl) e
      have hb_216 : ∀ (x5 : Int32) (x6 : Int32) (x7 : Int32) (x8 : Int32) (x9 : Int32) (z0 : Int32) (lq : Nat → Int32) (H : Heap) (locs : List Loc) (ls : Array Slot), va_P D vwCl (kv_lw ci la lm lp lr lq) H → va_D A (kv_lw ci la lm lp lr lq) → va_S A s.heap H locs → lv_has ls 12 [(0, .int p0), (1, .ref (la 0)), (2, .ref (la 1)), (4, .ref (la 3)), (5, .int x5), (6, .int x6), (7, .int x7), (8, .int x8), (9, .int x9)] → Rz = pf_L_gap_216 lm lp lr p0 (pf_L_gap_56 lm lp lr p0  n_56) x5 x6 x7 x8 x9 z0 lq → W p l en rmL_gap s m args below meth c H locs 0 0 Q (F0 m 216 ls [.int z0]) := by
        intro x5 x6 x7 x8 x9 z0 lq H locs ls  hP hD hS hl e
        rw [pf_L_gap_216] at e
        refine lv_istore (lv' := [(11, .int z0), (0, .int p0), (1, .ref (la 0)), (2, .ref (la 1)), (4, .ref (la 3)), (5, .int x5), (6, .int x6), (7, .int x7), (8, .int x8), (9, .int x9)]) hx hb dL_gap_216 hl (by decide) rfl (fun ls hl => ?_)
        refine lv_iload hx hb dL_gap_218 (lv_at hl 0 rfl) ?_
        refine lv_if_eq (tgt := 228) hx hb dL_gap_220 (by decide) (fun c_220 => ?_) (fun c_220 => ?_)
        · have e := e.trans (if_pos c_220)
          refine lv_iload hx hb dL_gap_228 (lv_at hl 6 rfl) ?_
          exact hb_230 x5 x7 x9 z0 x6 lq _ _ _  hP hD hS (lv_sub hl [1, 2, 3, 4, 5, 7, 9, 0] rfl) e
        · have e := e.trans (if_neg c_220)
          refine lv_iload hx hb dL_gap_223 (lv_at hl 8 rfl) ?_
          refine lv_goto (tgt := 230) hx hb dL_gap_225 (by decide) ?_
          exact hb_230 x5 x7 x9 z0 x8 lq _ _ _  hP hD hS (lv_sub hl [1, 2, 3, 4, 5, 7, 9, 0] rfl) e
      have hb_181 : ∀ (x5 : Int32) (x6 : Int32) (x7 : Int32) (x8 : Int32) (x9 : Int32) (z0 : Int32) (lq : Nat → Int32) (H : Heap) (locs : List Loc) (ls : Array Slot), va_P D vwCl (kv_lw ci la lm lp lr lq) H → va_D A (kv_lw ci la lm lp lr lq) → va_S A s.heap H locs → lv_has ls 12 [(0, .int p0), (1, .ref (la 0)), (2, .ref (la 1)), (4, .ref (la 3)), (5, .int x5), (6, .int x6), (7, .int x7), (8, .int x8), (9, .int x9)] → Rz = pf_L_gap_181 lm lp lr p0 (pf_L_gap_56 lm lp lr p0  n_56) x5 x6 x7 x8 x9 z0 lq → W p l en rmL_gap s m args below meth c H locs 0 0 Q (F0 m 181 ls [.int z0]) := by
        intro x5 x6 x7 x8 x9 z0 lq H locs ls  hP hD hS hl e
        rw [pf_L_gap_181] at e
        refine lv_istore (lv' := [(10, .int z0), (0, .int p0), (1, .ref (la 0)), (2, .ref (la 1)), (4, .ref (la 3)), (5, .int x5), (6, .int x6), (7, .int x7), (8, .int x8), (9, .int x9)]) hx hb dL_gap_181 hl (by decide) rfl (fun ls hl => ?_)
        refine lv_iload hx hb dL_gap_183 (lv_at hl 0 rfl) ?_
        refine lv_if_eq (tgt := 215) hx hb dL_gap_185 (by decide) (fun c_185 => ?_) (fun c_185 => ?_)
        · have e := e.trans (if_pos c_185)
          refine lv_iconst (v := 0) hx hb dL_gap_215 (by decide) ?_
          exact hb_216 x5 x6 x7 x8 x9 0 lq _ _ _  hP hD hS (lv_sub hl [1, 2, 3, 4, 5, 6, 7, 8, 9] rfl) e
        · have e := e.trans (if_neg c_185)
          refine lv_iload hx hb dL_gap_188 (lv_at hl 8 rfl) ?_
          refine lv_iload hx hb dL_gap_190 (lv_at hl 6 rfl) ?_
          refine lv_icmp_lt (tgt := 211) hx hb dL_gap_192 (by decide) (fun c_192 => ?_) (fun c_192 => ?_)
          · have e := e.trans (if_pos c_192)
            refine lv_iconst (v := 1) hx hb dL_gap_211 (by decide) ?_
            refine lv_goto (tgt := 216) hx hb dL_gap_212 (by decide) ?_
            exact hb_216 x5 x6 x7 x8 x9 1 lq _ _ _  hP hD hS (lv_sub hl [1, 2, 3, 4, 5, 6, 7, 8, 9] rfl) e
          · have e := e.trans (if_neg c_192)
            refine lv_iload hx hb dL_gap_195 (lv_at hl 8 rfl) ?_
            refine lv_iload hx hb dL_gap_197 (lv_at hl 6 rfl) ?_
            refine lv_icmp_ne (tgt := 215) hx hb dL_gap_199 (by decide) (fun c_199 => ?_) (fun c_199 => ?_)
            · have e := e.trans (if_neg c_199)
              refine lv_iconst (v := 0) hx hb dL_gap_215 (by decide) ?_
              exact hb_216 x5 x6 x7 x8 x9 0 lq _ _ _  hP hD hS (lv_sub hl [1, 2, 3, 4, 5, 6, 7, 8, 9] rfl) e
            · have e := e.trans (if_pos c_199)
              refine lv_iload hx hb dL_gap_202 (lv_at hl 9 rfl) ?_
              refine lv_aload hx hb dL_gap_204 (lv_at hl 4 rfl) ?_
              refine lv_iconst (v := 2) hx hb dL_gap_206 (by decide) ?_
              obtain ⟨hi_207, e⟩ := kv_G_e e hRz
              refine kv_iald hx hb hK hP 3 0 hi_207 dL_gap_207 rfl rfl (fun y_207 ey_207 => ?_)
              have e := kv_T_e e ey_207
              refine lv_icmp_ge (tgt := 215) hx hb dL_gap_208 (by decide) (fun c_208 => ?_) (fun c_208 => ?_)
              · have e := e.trans (if_pos c_208)
                refine lv_iconst (v := 0) hx hb dL_gap_215 (by decide) ?_
                exact hb_216 x5 x6 x7 x8 x9 0 lq _ _ _  hP hD hS (lv_sub hl [1, 2, 3, 4, 5, 6, 7, 8, 9] rfl) e
              · have e := e.trans (if_neg c_208)
                refine lv_iconst (v := 1) hx hb dL_gap_211 (by decide) ?_
                refine lv_goto (tgt := 216) hx hb dL_gap_212 (by decide) ?_
                exact hb_216 x5 x6 x7 x8 x9 1 lq _ _ _  hP hD hS (lv_sub hl [1, 2, 3, 4, 5, 6, 7, 8, 9] rfl) e
      have hb_70 : ∀ (n_70 : Nat), ∀ (x5 : Int32) (x6 : Int32) (x7 : Int32) (x8 : Int32) (x9 : Int32) (x10 : Int32) (lq : Nat → Int32) (H : Heap) (locs : List Loc) (ls : Array Slot), va_P D vwCl (kv_lw ci la lm lp lr lq) H → va_D A (kv_lw ci la lm lp lr lq) → va_S A s.heap H locs → lv_has ls 12 [(0, .int p0), (1, .ref (la 0)), (2, .ref (la 1)), (4, .ref (la 3)), (5, .int x5), (6, .int x6), (7, .int x7), (8, .int x8), (9, .int x9), (10, .int x10)] → Rz = pf_L_gap_70 lm lp lr p0 (pf_L_gap_56 lm lp lr p0  n_56) n_70 x5 x6 x7 x8 x9 x10 lq → W p l en rmL_gap s m args below meth c H locs 0 0 Q (F0 m 70 ls []) := by
        intro n_70
        induction n_70 with
        | zero =>
          intro x5 x6 x7 x8 x9 x10 lq H locs ls  _ _ _ _ e
          exact absurd e hRz
        | succ n_70 ih_70 =>
          have hb_153 : ∀ (x5 : Int32) (x6 : Int32) (x7 : Int32) (x8 : Int32) (x10 : Int32) (z0 : Int32) (z1 : Int32) (lq : Nat → Int32) (H : Heap) (locs : List Loc) (ls : Array Slot), va_P D vwCl (kv_lw ci la lm lp lr lq) H → va_D A (kv_lw ci la lm lp lr lq) → va_S A s.heap H locs → lv_has ls 12 [(0, .int p0), (1, .ref (la 0)), (2, .ref (la 1)), (4, .ref (la 3)), (5, .int x5), (6, .int x6), (7, .int x7), (8, .int x8), (10, .int x10)] → Rz = pf_L_gap_153 lm lp lr p0 (pf_L_gap_56 lm lp lr p0  n_56) (pf_L_gap_70 lm lp lr p0 (pf_L_gap_56 lm lp lr p0  n_56) n_70) x5 x6 x7 x8 x10 z0 z1 lq → W p l en rmL_gap s m args below meth c H locs 0 0 Q (F0 m 153 ls [.int z1, .int z0]) := by
            intro x5 x6 x7 x8 x10 z0 z1 lq H locs ls  hP hD hS hl e
            rw [pf_L_gap_153] at e
            refine lv_iadd hx hb dL_gap_153 ?_
            refine lv_topi (fun y_154 ey_154 => ?_)
            have e := kv_T_e e ey_154
            refine lv_istore (lv' := [(9, .int y_154), (0, .int p0), (1, .ref (la 0)), (2, .ref (la 1)), (4, .ref (la 3)), (5, .int x5), (6, .int x6), (7, .int x7), (8, .int x8), (10, .int x10)]) hx hb dL_gap_154 hl (by decide) rfl (fun ls hl => ?_)
            refine lv_iinc (v := x10 + 1) (lv' := [(10, .int (x10 + 1)), (9, .int y_154), (0, .int p0), (1, .ref (la 0)), (2, .ref (la 1)), (4, .ref (la 3)), (5, .int x5), (6, .int x6), (7, .int x7), (8, .int x8)]) hx hb dL_gap_156 hl (k := 9) rfl rfl (by decide) rfl (fun ls hl => ?_)
            refine lv_goto (tgt := 70) hx hb dL_gap_159 (by decide) ?_
            exact ih_70 x5 x6 x7 x8 y_154 (x10 + 1) lq _ _ _  hP hD hS (lv_sub hl [2, 3, 4, 5, 6, 7, 8, 9, 1, 0] rfl) e
          have hb_132 : ∀ (x5 : Int32) (x6 : Int32) (x7 : Int32) (x9 : Int32) (x10 : Int32) (x11 : Int32) (z0 : Int32) (z1 : Int32) (lq : Nat → Int32) (H : Heap) (locs : List Loc) (ls : Array Slot), va_P D vwCl (kv_lw ci la lm lp lr lq) H → va_D A (kv_lw ci la lm lp lr lq) → va_S A s.heap H locs → lv_has ls 12 [(0, .int p0), (1, .ref (la 0)), (2, .ref (la 1)), (4, .ref (la 3)), (5, .int x5), (6, .int x6), (7, .int x7), (9, .int x9), (10, .int x10), (11, .int x11)] → Rz = pf_L_gap_132 lm lp lr p0 (pf_L_gap_56 lm lp lr p0  n_56) (pf_L_gap_70 lm lp lr p0 (pf_L_gap_56 lm lp lr p0  n_56) n_70) x5 x6 x7 x9 x10 x11 z0 z1 lq → W p l en rmL_gap s m args below meth c H locs 0 0 Q (F0 m 132 ls [.int z1, .int z0]) := by
            intro x5 x6 x7 x9 x10 x11 z0 z1 lq H locs ls  hP hD hS hl e
            rw [pf_L_gap_132] at e
            refine lv_iadd hx hb dL_gap_132 ?_
            refine lv_topi (fun y_133 ey_133 => ?_)
            have e := kv_T_e e ey_133
            refine lv_istore (lv' := [(8, .int y_133), (0, .int p0), (1, .ref (la 0)), (2, .ref (la 1)), (4, .ref (la 3)), (5, .int x5), (6, .int x6), (7, .int x7), (9, .int x9), (10, .int x10), (11, .int x11)]) hx hb dL_gap_133 hl (by decide) rfl (fun ls hl => ?_)
            refine lv_iload hx hb dL_gap_135 (lv_at hl 8 rfl) ?_
            refine lv_iload hx hb dL_gap_137 (lv_at hl 10 rfl) ?_
            refine lv_if_eq (tgt := 152) hx hb dL_gap_139 (by decide) (fun c_139 => ?_) (fun c_139 => ?_)
            · have e := e.trans (if_pos c_139)
              refine lv_iconst (v := 0) hx hb dL_gap_152 (by decide) ?_
              exact hb_153 x5 x6 x7 y_133 x10 x9 0 lq _ _ _  hP hD hS (lv_sub hl [1, 2, 3, 4, 5, 6, 7, 0, 9] rfl) e
            · have e := e.trans (if_neg c_139)
              refine lv_iload hx hb dL_gap_142 (lv_at hl 7 rfl) ?_
              refine lv_iconst (v := 1) hx hb dL_gap_144 (by decide) ?_
              refine lv_iload hx hb dL_gap_145 (lv_at hl 9 rfl) ?_
              refine lv_ishl hx hb dL_gap_147 ?_
              refine lv_iand hx hb dL_gap_148 ?_
              refine lv_goto (tgt := 153) hx hb dL_gap_149 (by decide) ?_
              exact hb_153 x5 x6 x7 y_133 x10 x9 (x7 &&& (1 <<< (x10 &&& 31))) lq _ _ _  hP hD hS (lv_sub hl [1, 2, 3, 4, 5, 6, 7, 0, 9] rfl) e
          have hb_94 : ∀ (x5 : Int32) (x6 : Int32) (x7 : Int32) (x8 : Int32) (x9 : Int32) (x10 : Int32) (z0 : Int32) (lq : Nat → Int32) (H : Heap) (locs : List Loc) (ls : Array Slot), va_P D vwCl (kv_lw ci la lm lp lr lq) H → va_D A (kv_lw ci la lm lp lr lq) → va_S A s.heap H locs → lv_has ls 12 [(0, .int p0), (1, .ref (la 0)), (2, .ref (la 1)), (4, .ref (la 3)), (5, .int x5), (6, .int x6), (7, .int x7), (8, .int x8), (9, .int x9), (10, .int x10)] → Rz = pf_L_gap_94 lm lp lr p0 (pf_L_gap_56 lm lp lr p0  n_56) (pf_L_gap_70 lm lp lr p0 (pf_L_gap_56 lm lp lr p0  n_56) n_70) x5 x6 x7 x8 x9 x10 z0 lq → W p l en rmL_gap s m args below meth c H locs 0 0 Q (F0 m 94 ls [.int z0]) := by
            intro x5 x6 x7 x8 x9 x10 z0 lq H locs ls  hP hD hS hl e
            rw [pf_L_gap_94] at e
            refine lv_istore (lv' := [(11, .int z0), (0, .int p0), (1, .ref (la 0)), (2, .ref (la 1)), (4, .ref (la 3)), (5, .int x5), (6, .int x6), (7, .int x7), (8, .int x8), (9, .int x9), (10, .int x10)]) hx hb dL_gap_94 hl (by decide) rfl (fun ls hl => ?_)
            refine lv_iload hx hb dL_gap_96 (lv_at hl 8 rfl) ?_
            refine lv_iload hx hb dL_gap_98 (lv_at hl 0 rfl) ?_
            refine lv_if_eq (tgt := 131) hx hb dL_gap_100 (by decide) (fun c_100 => ?_) (fun c_100 => ?_)
            · have e := e.trans (if_pos c_100)
              refine lv_iconst (v := 0) hx hb dL_gap_131 (by decide) ?_
              exact hb_132 x5 x6 x7 x9 x10 z0 x8 0 lq _ _ _  hP hD hS (lv_sub hl [1, 2, 3, 4, 5, 6, 7, 9, 10, 0] rfl) e
            · have e := e.trans (if_neg c_100)
              refine lv_iload hx hb dL_gap_103 (lv_at hl 7 rfl) ?_
              refine lv_iload hx hb dL_gap_105 (lv_at hl 10 rfl) ?_
              refine lv_ishr hx hb dL_gap_107 ?_
              refine lv_iconst (v := 1) hx hb dL_gap_108 (by decide) ?_
              refine lv_iand hx hb dL_gap_109 ?_
              refine lv_iconst (v := 1) hx hb dL_gap_110 (by decide) ?_
              refine lv_icmp_ne (tgt := 131) hx hb dL_gap_111 (by decide) (fun c_111 => ?_) (fun c_111 => ?_)
              · have e := e.trans (if_neg c_111)
                refine lv_iconst (v := 0) hx hb dL_gap_131 (by decide) ?_
                exact hb_132 x5 x6 x7 x9 x10 z0 x8 0 lq _ _ _  hP hD hS (lv_sub hl [1, 2, 3, 4, 5, 6, 7, 9, 10, 0] rfl) e
              · have e := e.trans (if_pos c_111)
                refine lv_aload_n hx hb dL_gap_114 rfl (lv_at hl 2 rfl) ?_
                refine lv_iconst (v := 4) hx hb dL_gap_115 (by decide) ?_
                refine lv_iload hx hb dL_gap_116 (lv_at hl 10 rfl) ?_
                refine lv_imul hx hb dL_gap_118 ?_
                obtain ⟨hi_119, e⟩ := kv_G_e e hRz
                refine kv_iald hx hb hK hP 0 0 hi_119 dL_gap_119 rfl rfl (fun y_119 ey_119 => ?_)
                have e := kv_T_e e ey_119
                refine lv_aload_n hx hb dL_gap_120 rfl (lv_at hl 3 rfl) ?_
                refine lv_iconst (v := 2) hx hb dL_gap_121 (by decide) ?_
                refine lv_iload_n hx hb dL_gap_122 rfl (lv_at hl 1 rfl) ?_
                refine lv_imul hx hb dL_gap_123 ?_
                refine lv_iconst (v := 1) hx hb dL_gap_124 (by decide) ?_
                refine lv_iadd hx hb dL_gap_125 ?_
                obtain ⟨hi_126, e⟩ := kv_G_e e hRz
                refine kv_iald hx hb hK hP 1 0 hi_126 dL_gap_126 rfl rfl (fun y_126 ey_126 => ?_)
                have e := kv_T_e e ey_126
                refine lv_imul hx hb dL_gap_127 ?_
                refine lv_goto (tgt := 132) hx hb dL_gap_128 (by decide) ?_
                exact hb_132 x5 x6 x7 x9 x10 z0 x8 (y_119 * y_126) lq _ _ _  hP hD hS (lv_sub hl [1, 2, 3, 4, 5, 6, 7, 9, 10, 0] rfl) e
          intro x5 x6 x7 x8 x9 x10 lq H locs ls  hP hD hS hl e
          rw [pf_L_gap_70, pf_L_gap_70b] at e
          refine lv_iload hx hb dL_gap_70 (lv_at hl 9 rfl) ?_
          refine lv_iconst (v := 5) hx hb dL_gap_72 (by decide) ?_
          refine lv_icmp_ge (tgt := 162) hx hb dL_gap_73 (by decide) (fun c_73 => ?_) (fun c_73 => ?_)
          · have e := e.trans (if_pos c_73)
            refine lv_iload hx hb dL_gap_162 (lv_at hl 4 rfl) ?_
            refine lv_bipush (v := 31) hx hb dL_gap_164 (by decide) ?_
            refine lv_iload hx hb dL_gap_166 (lv_at hl 6 rfl) ?_
            refine lv_isub hx hb dL_gap_168 ?_
            refine lv_ishr hx hb dL_gap_169 ?_
            refine lv_iconst (v := 1) hx hb dL_gap_170 (by decide) ?_
            refine lv_iand hx hb dL_gap_171 ?_
            refine lv_iconst (v := 1) hx hb dL_gap_172 (by decide) ?_
            refine lv_icmp_ne (tgt := 180) hx hb dL_gap_173 (by decide) (fun c_173 => ?_) (fun c_173 => ?_)
            · have e := e.trans (if_neg c_173)
              refine lv_iconst (v := 0) hx hb dL_gap_180 (by decide) ?_
              exact hb_181 x5 x6 x7 x8 x9 0 lq _ _ _  hP hD hS (lv_sub hl [0, 1, 2, 3, 4, 5, 6, 7, 8] rfl) e
            · have e := e.trans (if_pos c_173)
              refine lv_iconst (v := 1) hx hb dL_gap_176 (by decide) ?_
              refine lv_goto (tgt := 181) hx hb dL_gap_177 (by decide) ?_
              exact hb_181 x5 x6 x7 x8 x9 1 lq _ _ _  hP hD hS (lv_sub hl [0, 1, 2, 3, 4, 5, 6, 7, 8] rfl) e
          · have e := e.trans (if_neg c_73)
            refine lv_aload_n hx hb dL_gap_76 rfl (lv_at hl 1 rfl) ?_
            refine lv_iconst (v := 4) hx hb dL_gap_77 (by decide) ?_
            refine lv_iload hx hb dL_gap_78 (lv_at hl 9 rfl) ?_
            refine lv_imul hx hb dL_gap_80 ?_
            refine lv_iconst (v := 2) hx hb dL_gap_81 (by decide) ?_
            refine lv_iadd hx hb dL_gap_82 ?_
            refine lv_iload_n hx hb dL_gap_83 rfl (lv_at hl 0 rfl) ?_
            refine lv_iadd hx hb dL_gap_84 ?_
            obtain ⟨hi_85, e⟩ := kv_G_e e hRz
            refine kv_iald hx hb hK hP 0 0 hi_85 dL_gap_85 rfl rfl (fun y_85 ey_85 => ?_)
            have e := kv_T_e e ey_85
            refine lv_if_le (tgt := 93) hx hb dL_gap_86 (by decide) (fun c_86 => ?_) (fun c_86 => ?_)
            · have e := e.trans (if_pos c_86)
              refine lv_iconst (v := 0) hx hb dL_gap_93 (by decide) ?_
              exact hb_94 x5 x6 x7 x8 x9 x10 0 lq _ _ _  hP hD hS (lv_sub hl [0, 1, 2, 3, 4, 5, 6, 7, 8, 9] rfl) e
            · have e := e.trans (if_neg c_86)
              refine lv_iconst (v := 1) hx hb dL_gap_89 (by decide) ?_
              refine lv_goto (tgt := 94) hx hb dL_gap_90 (by decide) ?_
              exact hb_94 x5 x6 x7 x8 x9 x10 1 lq _ _ _  hP hD hS (lv_sub hl [0, 1, 2, 3, 4, 5, 6, 7, 8, 9] rfl) e
      intro x5 x6 x7 lq H locs ls  hP hD hS hl e
      rw [pf_L_gap_56, pf_L_gap_56b] at e
      refine lv_iload hx hb dL_gap_56 (lv_at hl 6 rfl) ?_
      refine lv_if_lt (tgt := 256) hx hb dL_gap_58 (by decide) (fun c_58 => ?_) (fun c_58 => ?_)
      · have e := e.trans (if_pos c_58)
        refine lv_iload hx hb dL_gap_256 (lv_at hl 5 rfl) ?_
        rw [hQ]
        exact W.iret (v := x6) hx hb hr (fun t ht hW => ⟨⟨x6, (lq), rfl, e, ⟨by rw [ht]; exact hP, by rw [hAe]; exact hD⟩⟩, hS.F ht⟩) hS.2.2 dL_gap_258
      · have e := e.trans (if_neg c_58)
        refine lv_iconst (v := 0) hx hb dL_gap_61 (by decide) ?_
        refine lv_istore (lv' := [(8, .int 0), (0, .int p0), (1, .ref (la 0)), (2, .ref (la 1)), (4, .ref (la 3)), (5, .int x5), (6, .int x6), (7, .int x7)]) hx hb dL_gap_62 hl (by decide) rfl (fun ls hl => ?_)
        refine lv_iconst (v := 0) hx hb dL_gap_64 (by decide) ?_
        refine lv_istore (lv' := [(9, .int 0), (8, .int 0), (0, .int p0), (1, .ref (la 0)), (2, .ref (la 1)), (4, .ref (la 3)), (5, .int x5), (6, .int x6), (7, .int x7)]) hx hb dL_gap_65 hl (by decide) rfl (fun ls hl => ?_)
        refine lv_iconst (v := 0) hx hb dL_gap_67 (by decide) ?_
        refine lv_istore (lv' := [(10, .int 0), (9, .int 0), (8, .int 0), (0, .int p0), (1, .ref (la 0)), (2, .ref (la 1)), (4, .ref (la 3)), (5, .int x5), (6, .int x6), (7, .int x7)]) hx hb dL_gap_68 hl (by decide) rfl (fun ls hl => ?_)
        exact hb_70 kv_F x5 x6 x7 0 0 0 lq _ _ _  hP hD hS (lv_sub hl [3, 4, 5, 6, 7, 8, 9, 2, 1, 0] rfl) e
  have hb_6 : ∀ (n_6 : Nat), ∀ (x5 : Int32) (x6 : Int32) (lq : Nat → Int32) (H : Heap) (locs : List Loc) (ls : Array Slot), va_P D vwCl (kv_lw ci la lm lp lr lq) H → va_D A (kv_lw ci la lm lp lr lq) → va_S A s.heap H locs → lv_has ls 12 [(0, .int p0), (1, .ref (la 0)), (2, .ref (la 1)), (3, .ref (la 2)), (4, .ref (la 3)), (5, .int x5), (6, .int x6)] → Rz = pf_L_gap_6 lm lp lr p0  n_6 x5 x6 lq → W p l en rmL_gap s m args below meth c H locs 0 0 Q (F0 m 6 ls []) := by
    intro n_6
    induction n_6 with
    | zero =>
      intro x5 x6 lq H locs ls  _ _ _ _ e
      exact absurd e hRz
    | succ n_6 ih_6 =>
      have hb_40 : ∀ (x6 : Int32) (z0 : Int32) (lq : Nat → Int32) (H : Heap) (locs : List Loc) (ls : Array Slot), va_P D vwCl (kv_lw ci la lm lp lr lq) H → va_D A (kv_lw ci la lm lp lr lq) → va_S A s.heap H locs → lv_has ls 12 [(0, .int p0), (1, .ref (la 0)), (2, .ref (la 1)), (3, .ref (la 2)), (4, .ref (la 3)), (6, .int x6)] → Rz = pf_L_gap_40 lm lp lr p0 (pf_L_gap_6 lm lp lr p0  n_6) x6 z0 lq → W p l en rmL_gap s m args below meth c H locs 0 0 Q (F0 m 40 ls [.int z0]) := by
        intro x6 z0 lq H locs ls  hP hD hS hl e
        rw [pf_L_gap_40] at e
        refine lv_istore (lv' := [(5, .int z0), (0, .int p0), (1, .ref (la 0)), (2, .ref (la 1)), (3, .ref (la 2)), (4, .ref (la 3)), (6, .int x6)]) hx hb dL_gap_40 hl (by decide) rfl (fun ls hl => ?_)
        refine lv_iinc (v := x6 + 1) (lv' := [(6, .int (x6 + 1)), (5, .int z0), (0, .int p0), (1, .ref (la 0)), (2, .ref (la 1)), (3, .ref (la 2)), (4, .ref (la 3))]) hx hb dL_gap_42 hl (k := 6) rfl rfl (by decide) rfl (fun ls hl => ?_)
        refine lv_goto (tgt := 6) hx hb dL_gap_45 (by decide) ?_
        exact ih_6 z0 (x6 + 1) lq _ _ _  hP hD hS (lv_sub hl [2, 3, 4, 5, 6, 1, 0] rfl) e
      intro x5 x6 lq H locs ls  hP hD hS hl e
      rw [pf_L_gap_6, pf_L_gap_6b] at e
      refine lv_iload hx hb dL_gap_6 (lv_at hl 6 rfl) ?_
      refine lv_aload hx hb dL_gap_8 (lv_at hl 4 rfl) ?_
      refine lv_iconst (v := 1) hx hb dL_gap_10 (by decide) ?_
      obtain ⟨hi_11, e⟩ := kv_G_e e hRz
      refine kv_iald hx hb hK hP 3 0 hi_11 dL_gap_11 rfl rfl (fun y_11 ey_11 => ?_)
      have e := kv_T_e e ey_11
      refine lv_icmp_ge (tgt := 48) hx hb dL_gap_12 (by decide) (fun c_12 => ?_) (fun c_12 => ?_)
      · have e := e.trans (if_pos c_12)
        refine lv_ldc (v := 1073741824) hx hb hown (hts (.constant RL 54 1073741824) (by decide +kernel)) dL_gap_48 ?_
        refine lv_istore (lv' := [(6, .int 1073741824), (0, .int p0), (1, .ref (la 0)), (2, .ref (la 1)), (3, .ref (la 2)), (4, .ref (la 3)), (5, .int x5)]) hx hb dL_gap_50 hl (by decide) rfl (fun ls hl => ?_)
        refine lv_bipush (v := 31) hx hb dL_gap_52 (by decide) ?_
        refine lv_istore (lv' := [(7, .int 31), (6, .int 1073741824), (0, .int p0), (1, .ref (la 0)), (2, .ref (la 1)), (3, .ref (la 2)), (4, .ref (la 3)), (5, .int x5)]) hx hb dL_gap_54 hl (by decide) rfl (fun ls hl => ?_)
        exact hb_56 kv_F x5 1073741824 31 lq _ _ _  hP hD hS (lv_sub hl [2, 3, 4, 6, 7, 1, 0] rfl) e
      · have e := e.trans (if_neg c_12)
        refine lv_aload_n hx hb dL_gap_15 rfl (lv_at hl 3 rfl) ?_
        refine lv_bipush (v := 6) hx hb dL_gap_16 (by decide) ?_
        refine lv_iload hx hb dL_gap_18 (lv_at hl 6 rfl) ?_
        refine lv_imul hx hb dL_gap_20 ?_
        obtain ⟨hi_21, e⟩ := kv_G_e e hRz
        refine kv_iald hx hb hK hP 2 0 hi_21 dL_gap_21 rfl rfl (fun y_21 ey_21 => ?_)
        have e := kv_T_e e ey_21
        refine lv_iload_n hx hb dL_gap_22 rfl (lv_at hl 0 rfl) ?_
        refine lv_icmp_ne (tgt := 38) hx hb dL_gap_23 (by decide) (fun c_23 => ?_) (fun c_23 => ?_)
        · have e := e.trans (if_neg c_23)
          refine lv_iload hx hb dL_gap_38 (lv_at hl 5 rfl) ?_
          exact hb_40 x6 x5 lq _ _ _  hP hD hS (lv_sub hl [0, 1, 2, 3, 4, 6] rfl) e
        · have e := e.trans (if_pos c_23)
          refine lv_iload hx hb dL_gap_26 (lv_at hl 5 rfl) ?_
          refine lv_iload hx hb dL_gap_28 (lv_at hl 6 rfl) ?_
          refine lv_aload_n hx hb dL_gap_30 rfl (lv_at hl 1 rfl) ?_
          refine lv_aload_n hx hb dL_gap_31 rfl (lv_at hl 3 rfl) ?_
          refine kv_calli (va_runS (As := [.int x5, .int x6, .ref (la 0), .ref (la 2)]) (rest := []) ⟨hx, hb, hml, hown, hts⟩ (c_L_spreads l D ci la lm lp lr lq x5 x6 (kv_q1_n e hRz) H.size) (va_cwS 4 hts gL_gap_L_spreads rfl rfl rfl (by decide +kernel) ⟨Nat.le_of_ble_eq_true rfl, Nat.le_of_ble_eq_true rfl⟩) (kv_preS hK hP hD) rfl rfl hl.1 rfl (lv_room (Nat.le_of_ble_eq_true rfl)) dL_gap_32 ⟨Nat.le_of_ble_eq_true rfl, Nat.le_of_ble_eq_true rfl⟩) hD hS hA (fun r_32 u_32 H locs hw_32 hP hD hS => ?_)
          have e := kv_q1_e e hw_32
          refine lv_goto (tgt := 40) hx hb dL_gap_35 (by decide) ?_
          exact hb_40 x6 r_32 lq _ _ _  hP hD hS (lv_sub hl [0, 1, 2, 3, 4, 6] rfl) e
  refine lv_iconst (v := 1) hx hb dL_gap_0 (by decide) ?_
  refine lv_istore (lv' := [(5, .int 1), (0, .int p0), (1, .ref (la 0)), (2, .ref (la 1)), (3, .ref (la 2)), (4, .ref (la 3))]) hx hb dL_gap_1 hl (by decide) rfl (fun ls hl => ?_)
  refine lv_iconst (v := 0) hx hb dL_gap_3 (by decide) ?_
  refine lv_istore (lv' := [(6, .int 0), (5, .int 1), (0, .int p0), (1, .ref (la 0)), (2, .ref (la 1)), (3, .ref (la 2)), (4, .ref (la 3))]) hx hb dL_gap_4 hl (by decide) rfl (fun ls hl => ?_)
  exact hb_6 kv_F 1 0 lq _ _ _  hP hD hS (lv_sub hl [2, 3, 4, 5, 6, 1, 0] rfl) e

def pf_L_many_42 (lr : Nat → Int32) (lq : Nat → Int32) (p0 : Int32) (k_5 : Int32 → Int32 → Option (Int32)) (x4 : Int32) (z0 : Int32) (z1 : Int32)  : Option (Int32) :=
  kv_T (z0 + z1) (fun y_43 => k_5 y_43 (x4 + 1))
def pf_L_many_5b (lr : Nat → Int32) (lq : Nat → Int32) (p0 : Int32)  (k_5 : Int32 → Int32 → Option (Int32)) (x3 : Int32) (x4 : Int32)  : Option (Int32) :=
  kv_G (1 : Int32) 3 (kv_T (lq (1 : Int32).toNatClampNeg) (fun y_9 => if y_9 ≤ x4 then some (x3) else kv_G (6 * x4) 60 (kv_T (lr (6 * x4).toNatClampNeg) (fun y_20 => if y_20 = p0 then kv_G ((6 * x4) + 2) 60 (kv_T (lr ((6 * x4) + 2).toNatClampNeg) (fun y_33 => if y_33 ≤ 0 then pf_L_many_42 lr lq p0 k_5 x4 x3 0 else pf_L_many_42 lr lq p0 k_5 x4 x3 1)) else pf_L_many_42 lr lq p0 k_5 x4 x3 0))))
def pf_L_many_5 (lr : Nat → Int32) (lq : Nat → Int32) (p0 : Int32)  : Nat → Int32 → Int32 → Option (Int32)
  | 0, _, _ => none
  | nn + 1, x3, x4 => pf_L_many_5b lr lq p0  (pf_L_many_5 lr lq p0  nn) x3 x4
def pf_L_many (lr : Nat → Int32) (lq : Nat → Int32) (p0 : Int32)  : Option (Int32) :=
  pf_L_many_5 lr lq p0 kv_F 0 0
abbrev rmL_many : Room := { frames := 0, cells := 0, slots := 0, locals := 0 }
set_option maxHeartbeats 4000000 in
set_option maxRecDepth 100000 in
theorem c_L_many (l : Launch) (D : va_G) (ci la : Nat → Nat) (lm : Nat → Int32) (lp : Nat → Int32) (lr : Nat → Int32) (lq : Nat → Int32) (p0 : Int32)  (hRn : pf_L_many lr lq p0 ≠ none) (sz : Nat) : Met l yL_many wsL_many rmL_many (va_Pc [.int p0, .ref (la 2), .ref (la 3)] (kv_pre D ci (kv_lw ci la lm lp lr lq) sz)) (va_Qi (fun (r : Int32) (u : Unit) => pf_L_many lr lq p0 = some (r)) (fun u t => kv_post D (kv_lw ci la lm lp lr lq) sz (kv_lw ci la lm lp lr lq) t) (va_A (kv_lw ci la lm lp lr lq) sz)) 0 0 (va_A (kv_lw ci la lm lp lr lq) sz) := by
  refine Met.ofW (cc := cL_many) (maxL := 5) (ret := (some .int)) (by decide) rfl ?_
  intro p en s m args below meth c s₁ B hml hv
  obtain ⟨hv0, hsz, hP, hK, hD0⟩ := hv
  have hx := B.exec
  have hb := B.bytes
  have hr := B.returns
  have hts := atoms_spec (ws := wsL_many) B.pre
  have hown : s.vm.findClass RL = some m.cls := findClass_of_methodNamed B.named
  have hlocks := B.notSynchronized
  subst hsz
  have hD := hD0.self (sz := s.heap.size)
  generalize hAe : va_A (kv_lw ci la lm lp lr lq) s.heap.size = A at hD ⊢
  have hA : ∀ q : Nat, s.heap.size ≤ q → A q := fun q h => by rw [← hAe]; exact Or.inr h
  have hS : va_S A s.heap s.heap [] := va_S.rf
  have hP : va_P D vwCl (kv_lw ci la lm lp lr lq) s.heap := hP
  generalize hRd : pf_L_many lr lq p0 = Rz at hRn
  have hRz := hRn
  refine kv_Q (fun Q hQ => ?_)
  refine W.eq (show entryFrame m args 5 = _ from by rw [hv0, lg_entry_eq]) ?_
  have hl := lv_entry ([.int p0, .ref (la 2), .ref (la 3)]) (n := 5) (Nat.le_of_ble_eq_true rfl)
  generalize (lg_sl ([.int p0, .ref (la 2), .ref (la 3)]) ++ List.replicate (5 - (lg_sl ([.int p0, .ref (la 2), .ref (la 3)])).length) Slot.unset).toArray = ls at hl ⊢
  have hl : lv_has ls 5 [(0, .int p0), (1, .ref (la 2)), (2, .ref (la 3))] := hl
  have e : Rz = pf_L_many lr lq p0 := hRd.symm
  rw [pf_L_many] at e
  have hb_5 : ∀ (n_5 : Nat), ∀ (x3 : Int32) (x4 : Int32) (H : Heap) (locs : List Loc) (ls : Array Slot), va_P D vwCl (kv_lw ci la lm lp lr lq) H → va_D A (kv_lw ci la lm lp lr lq) → va_S A s.heap H locs → lv_has ls 5 [(0, .int p0), (1, .ref (la 2)), (2, .ref (la 3)), (3, .int x3), (4, .int x4)] → Rz = pf_L_many_5 lr lq p0  n_5 x3 x4 → W p l en rmL_many s m args below meth c H locs 0 0 Q (F0 m 5 ls []) := by
    intro n_5
    induction n_5 with
    | zero =>
      intro x3 x4 H locs ls  _ _ _ _ e
      exact absurd e hRz
    | succ n_5 ih_5 =>
      have hb_42 : ∀ (x4 : Int32) (z0 : Int32) (z1 : Int32) (H : Heap) (locs : List Loc) (ls : Array Slot), va_P D vwCl (kv_lw ci la lm lp lr lq) H → va_D A (kv_lw ci la lm lp lr lq) → va_S A s.heap H locs → lv_has ls 5 [(0, .int p0), (1, .ref (la 2)), (2, .ref (la 3)), (4, .int x4)] → Rz = pf_L_many_42 lr lq p0 (pf_L_many_5 lr lq p0  n_5) x4 z0 z1 → W p l en rmL_many s m args below meth c H locs 0 0 Q (F0 m 42 ls [.int z1, .int z0]) := by
        intro x4 z0 z1 H locs ls  hP hD hS hl e
        rw [pf_L_many_42] at e
        refine lv_iadd hx hb dL_many_42 ?_
        refine lv_topi (fun y_43 ey_43 => ?_)
        have e := kv_T_e e ey_43
        refine lv_istore_n (lv' := [(3, .int y_43), (0, .int p0), (1, .ref (la 2)), (2, .ref (la 3)), (4, .int x4)]) hx hb dL_many_43 rfl hl (by decide) rfl (fun ls hl => ?_)
        refine lv_iinc (v := x4 + 1) (lv' := [(4, .int (x4 + 1)), (3, .int y_43), (0, .int p0), (1, .ref (la 2)), (2, .ref (la 3))]) hx hb dL_many_44 hl (k := 4) rfl rfl (by decide) rfl (fun ls hl => ?_)
        refine lv_goto (tgt := 5) hx hb dL_many_47 (by decide) ?_
        exact ih_5 y_43 (x4 + 1) _ _ _  hP hD hS (lv_sub hl [2, 3, 4, 1, 0] rfl) e
      intro x3 x4 H locs ls  hP hD hS hl e
      rw [pf_L_many_5, pf_L_many_5b] at e
      refine lv_iload hx hb dL_many_5 (lv_at hl 4 rfl) ?_
      refine lv_aload_n hx hb dL_many_7 rfl (lv_at hl 2 rfl) ?_
      refine lv_iconst (v := 1) hx hb dL_many_8 (by decide) ?_
      obtain ⟨hi_9, e⟩ := kv_G_e e hRz
      refine kv_iald hx hb hK hP 3 0 hi_9 dL_many_9 rfl rfl (fun y_9 ey_9 => ?_)
      have e := kv_T_e e ey_9
      refine lv_icmp_ge (tgt := 50) hx hb dL_many_10 (by decide) (fun c_10 => ?_) (fun c_10 => ?_)
      · have e := e.trans (if_pos c_10)
        refine lv_iload_n hx hb dL_many_50 rfl (lv_at hl 3 rfl) ?_
        rw [hQ]
        exact W.iret (v := x3) hx hb hr (fun t ht hW => ⟨⟨x3, (), rfl, e, ⟨by rw [ht]; exact hP, by rw [hAe]; exact hD⟩⟩, hS.F ht⟩) hS.2.2 dL_many_51
      · have e := e.trans (if_neg c_10)
        refine lv_iload_n hx hb dL_many_13 rfl (lv_at hl 3 rfl) ?_
        refine lv_aload_n hx hb dL_many_14 rfl (lv_at hl 1 rfl) ?_
        refine lv_bipush (v := 6) hx hb dL_many_15 (by decide) ?_
        refine lv_iload hx hb dL_many_17 (lv_at hl 4 rfl) ?_
        refine lv_imul hx hb dL_many_19 ?_
        obtain ⟨hi_20, e⟩ := kv_G_e e hRz
        refine kv_iald hx hb hK hP 2 0 hi_20 dL_many_20 rfl rfl (fun y_20 ey_20 => ?_)
        have e := kv_T_e e ey_20
        refine lv_iload_n hx hb dL_many_21 rfl (lv_at hl 0 rfl) ?_
        refine lv_icmp_ne (tgt := 41) hx hb dL_many_22 (by decide) (fun c_22 => ?_) (fun c_22 => ?_)
        · have e := e.trans (if_neg c_22)
          refine lv_iconst (v := 0) hx hb dL_many_41 (by decide) ?_
          exact hb_42 x4 x3 0 _ _ _  hP hD hS (lv_sub hl [0, 1, 2, 4] rfl) e
        · have e := e.trans (if_pos c_22)
          refine lv_aload_n hx hb dL_many_25 rfl (lv_at hl 1 rfl) ?_
          refine lv_bipush (v := 6) hx hb dL_many_26 (by decide) ?_
          refine lv_iload hx hb dL_many_28 (lv_at hl 4 rfl) ?_
          refine lv_imul hx hb dL_many_30 ?_
          refine lv_iconst (v := 2) hx hb dL_many_31 (by decide) ?_
          refine lv_iadd hx hb dL_many_32 ?_
          obtain ⟨hi_33, e⟩ := kv_G_e e hRz
          refine kv_iald hx hb hK hP 2 0 hi_33 dL_many_33 rfl rfl (fun y_33 ey_33 => ?_)
          have e := kv_T_e e ey_33
          refine lv_if_le (tgt := 41) hx hb dL_many_34 (by decide) (fun c_34 => ?_) (fun c_34 => ?_)
          · have e := e.trans (if_pos c_34)
            refine lv_iconst (v := 0) hx hb dL_many_41 (by decide) ?_
            exact hb_42 x4 x3 0 _ _ _  hP hD hS (lv_sub hl [0, 1, 2, 4] rfl) e
          · have e := e.trans (if_neg c_34)
            refine lv_iconst (v := 1) hx hb dL_many_37 (by decide) ?_
            refine lv_goto (tgt := 42) hx hb dL_many_38 (by decide) ?_
            exact hb_42 x4 x3 1 _ _ _  hP hD hS (lv_sub hl [0, 1, 2, 4] rfl) e
  refine lv_iconst (v := 0) hx hb dL_many_0 (by decide) ?_
  refine lv_istore_n (lv' := [(3, .int 0), (0, .int p0), (1, .ref (la 2)), (2, .ref (la 3))]) hx hb dL_many_1 rfl hl (by decide) rfl (fun ls hl => ?_)
  refine lv_iconst (v := 0) hx hb dL_many_2 (by decide) ?_
  refine lv_istore (lv' := [(4, .int 0), (3, .int 0), (0, .int p0), (1, .ref (la 2)), (2, .ref (la 3))]) hx hb dL_many_3 hl (by decide) rfl (fun ls hl => ?_)
  exact hb_5 kv_F 0 0 _ _ _  hP hD hS (lv_sub hl [2, 3, 4, 1, 0] rfl) e
