def pf_X3_release_39b (nw : Int32) (rg : Int32) (rp : Nat → Int32) (rl : Nat → Int32) (p0 : Int32)  (k_39 : Int32 → Int32 → Int32 → (Nat → Int32) → (Nat → Int32) → Option (Int32 × Int32 × (Nat → Int32) × (Nat → Int32))) (x2 : Int32) (x3 : Int32) (th : Int32) (la : Nat → Int32) (ro : Nat → Int32) : Option (Int32 × Int32 × (Nat → Int32) × (Nat → Int32)) :=
  if rg ≤ x3 then kv_G p0 4 (kv_T (la p0.toNatClampNeg) (fun y_110 => kv_G p0 4 (kv_T (upd la p0.toNatClampNeg (y_110 + 1)) (fun g_113 => some (x2, th, g_113, ro))))) else kv_G x3 12 (kv_T (rp x3.toNatClampNeg) (fun y_52 => if y_52 = p0 then kv_G x3 12 (kv_T (rl x3.toNatClampNeg) (fun y_62 => if y_62 < nw then k_39 x2 (x3 + 1) th la ro else kv_G x3 12 (kv_T (ro x3.toNatClampNeg) (fun y_75 => kv_G p0 4 (kv_T (la p0.toNatClampNeg) (fun y_81 => if y_75 = y_81 then kv_G x3 12 (kv_T (ro x3.toNatClampNeg) (fun y_91 => kv_G x3 12 (kv_T (upd ro x3.toNatClampNeg (y_91 + 1)) (fun g_94 => k_39 (x2 + 1) (x3 + 1) th la g_94)))) else k_39 x2 (x3 + 1) th la ro)))))) else k_39 x2 (x3 + 1) th la ro))
def pf_X3_release_39 (nw : Int32) (rg : Int32) (rp : Nat → Int32) (rl : Nat → Int32) (p0 : Int32)  : Nat → Int32 → Int32 → Int32 → (Nat → Int32) → (Nat → Int32) → Option (Int32 × Int32 × (Nat → Int32) × (Nat → Int32))
  | 0, _, _, _, _, _ => none
  | nn + 1, x2, x3, th, la, ro => pf_X3_release_39b nw rg rp rl p0  (pf_X3_release_39 nw rg rp rl p0  nn) x2 x3 th la ro
def pf_X3_release (nw : Int32) (rg : Int32) (rp : Nat → Int32) (rl : Nat → Int32) (p0 : Int32) (th : Int32) (la : Nat → Int32) (ro : Nat → Int32) : Option (Int32 × Int32 × (Nat → Int32) × (Nat → Int32)) :=
  kv_q1 (pf_X3_isProduct p0) (fun r_6 => if r_6 = 0 then kv_q2 (pf_X3_fails 1 0) (fun r_14 u_14 => some (r_14, u_14, la, ro)) else kv_G p0 4 (kv_T (la p0.toNatClampNeg) (fun y_23 => if y_23 = 9 then kv_q2 (pf_X3_fails 2 0) (fun r_31 u_31 => some (r_31, u_31, la, ro)) else pf_X3_release_39 nw rg rp rl p0 kv_F 0 0 0 la ro)))
abbrev rmX3_release : Room := { frames := 2, cells := 0, slots := 0, locals := 42 }
set_option maxHeartbeats 4000000 in
set_option maxRecDepth 100000 in
theorem c_X3_release (l : Launch) (D : va_G) (ci md : Nat → Nat) (th : Int32) (nw : Int32) (co : Nat → Int32) (ho : Nat → Int32) (ve : Nat → Int32) (la : Nat → Int32) (pr : Nat → Int32) (rg : Int32) (rp : Nat → Int32) (rm : Nat → Int32) (rc : Nat → Int32) (re : Nat → Int32) (ro : Nat → Int32) (rl : Nat → Int32) (cn : Nat → Int32) (tn : Nat → Int32) (tk : Nat → Int32) (sp : Nat → Int32) (ba : Int32) (p0 : Int32)  (hRn : pf_X3_release nw rg rp rl p0 th la ro ≠ none) (sz : Nat) : Met l yX3_release wsX3_release rmX3_release (va_Pc [.ref (md 0), .int p0] (kv_pre D ci (kv_mw ci md th nw co ho ve la pr rg rp rm rc re ro rl cn tn tk sp ba) sz)) (va_Qi (fun (r : Int32) (u : Int32 × (Nat → Int32) × (Nat → Int32)) => pf_X3_release nw rg rp rl p0 th la ro = some (r, u)) (fun u t => kv_post D (kv_mw ci md th nw co ho ve la pr rg rp rm rc re ro rl cn tn tk sp ba) sz (kv_mw ci md u.1 nw co ho ve u.2.1 pr rg rp rm rc re u.2.2 rl cn tn tk sp ba) t) (va_A (kv_mw ci md th nw co ho ve la pr rg rp rm rc re ro rl cn tn tk sp ba) sz)) 0 0 (va_A (kv_mw ci md th nw co ho ve la pr rg rp rm rc re ro rl cn tn tk sp ba) sz) := by
  refine Met.ofW (cc := cX3_release) (maxL := 4) (ret := (some .int)) (by decide) rfl ?_
  intro p en s m args below meth c s₁ B hml hv
  obtain ⟨hv0, hsz, hP, hK, hD0⟩ := hv
  have hx := B.exec
  have hb := B.bytes
  have hr := B.returns
  have hts := atoms_spec (ws := wsX3_release) B.pre
  have hown : s.vm.findClass RX3 = some m.cls := findClass_of_methodNamed B.named
  have hlocks := B.notSynchronized
  subst hsz
  have hD := hD0.self (sz := s.heap.size)
  generalize hAe : va_A (kv_mw ci md th nw co ho ve la pr rg rp rm rc re ro rl cn tn tk sp ba) s.heap.size = A at hD ⊢
  have hA : ∀ q : Nat, s.heap.size ≤ q → A q := fun q h => by rw [← hAe]; exact Or.inr h
  have hS : va_S A s.heap s.heap [] := va_S.rf
  have hP : va_P D vwCl (kv_mw ci md th nw co ho ve la pr rg rp rm rc re ro rl cn tn tk sp ba) s.heap := hP
  have hinRX3 : ∀ w ∈ u_ws RX3 TX3 19, w ∈ wsX3_release := by decide +kernel
  generalize hRd : pf_X3_release nw rg rp rl p0 th la ro = Rz at hRn
  have hRz := hRn
  refine kv_Q (fun Q hQ => ?_)
  refine W.eq (show entryFrame m args 4 = _ from by rw [hv0, lg_entry_eq]) ?_
  have hl := lv_entry ([.ref (md 0), .int p0]) (n := 4) (Nat.le_of_ble_eq_true rfl)
  generalize (lg_sl ([.ref (md 0), .int p0]) ++ List.replicate (4 - (lg_sl ([.ref (md 0), .int p0])).length) Slot.unset).toArray = ls at hl ⊢
  have hl : lv_has ls 4 [(0, .ref (md 0)), (1, .int p0)] := hl
  have e : Rz = pf_X3_release nw rg rp rl p0 th la ro := hRd.symm
  rw [pf_X3_release] at e
  have hb_39 : ∀ (n_39 : Nat), ∀ (x2 : Int32) (x3 : Int32) (th : Int32) (la : Nat → Int32) (ro : Nat → Int32) (H : Heap) (locs : List Loc) (ls : Array Slot), va_P D vwCl (kv_mw ci md th nw co ho ve la pr rg rp rm rc re ro rl cn tn tk sp ba) H → va_D A (kv_mw ci md th nw co ho ve la pr rg rp rm rc re ro rl cn tn tk sp ba) → va_S A s.heap H locs → lv_has ls 4 [(0, .ref (md 0)), (1, .int p0), (2, .int x2), (3, .int x3)] → Rz = pf_X3_release_39 nw rg rp rl p0  n_39 x2 x3 th la ro → W p l en rmX3_release s m args below meth c H locs 0 0 Q (F0 m 39 ls []) := by
    intro n_39
    induction n_39 with
    | zero =>
      intro x2 x3 th la ro H locs ls  _ _ _ _ e
      exact absurd e hRz
    | succ n_39 ih_39 =>
      intro x2 x3 th la ro H locs ls  hP hD hS hl e
      rw [pf_X3_release_39, pf_X3_release_39b] at e
      refine lv_iload_n hx hb dX3_release_39 rfl (lv_at hl 3 rfl) ?_
      refine lv_aload_n hx hb dX3_release_40 rfl (lv_at hl 0 rfl) ?_
      refine va_get (D := D) (ci := 4) (v := .int rg) (C := RX3) (T := TX3) (N := 19) hx hb hts hinRX3 hown hK hP 0 rfl rfl 7 (by decide) (hts (.fieldLink RX3 64 "LicenceKeeperModel" "rights" "I") (by decide +kernel)) (fun _ h9 => h9) rfl dX3_release_41 ?_
      refine lv_icmp_ge (tgt := 104) hx hb dX3_release_44 (by decide) (fun c_44 => ?_) (fun c_44 => ?_)
      · have e := e.trans (if_pos c_44)
        refine lv_aload_n hx hb dX3_release_104 rfl (lv_at hl 0 rfl) ?_
        refine va_get (D := D) (ci := 4) (v := .ref (md 4)) (C := RX3) (T := TX3) (N := 19) hx hb hts hinRX3 hown hK hP 0 rfl rfl 5 (by decide) (hts (.fieldLink RX3 19 "LicenceKeeperModel" "latest" "[I") (by decide +kernel)) (fun _ h9 => h9) rfl dX3_release_105 ?_
        refine lv_iload_n hx hb dX3_release_108 rfl (lv_at hl 1 rfl) ?_
        refine lv_dup2_11 hx hb dX3_release_109 rfl rfl ?_
        obtain ⟨hi_110, e⟩ := kv_G_e e hRz
        refine kv_iald hx hb hK hP 4 0 hi_110 dX3_release_110 rfl rfl (fun y_110 ey_110 => ?_)
        have e := kv_T_e e ey_110
        refine lv_iconst (v := 1) hx hb dX3_release_111 (by decide) ?_
        refine lv_iadd hx hb dX3_release_112 ?_
        obtain ⟨hi_113, e⟩ := kv_G_e e hRz
        refine kv_iast hx hb hK hP hD hS 4 0 (fun g_113 => (kv_mw ci md th nw co ho ve g_113 pr rg rp rm rc re ro rl cn tn tk sp ba)) hi_113 dX3_release_113 rfl rfl (fun _ => rfl) (fun g_113 H locs eg_113 hP hD hS => ?_)
        have e := kv_T_e e eg_113
        refine lv_iload_n hx hb dX3_release_114 rfl (lv_at hl 2 rfl) ?_
        rw [hQ]
        exact W.iret (v := x2) hx hb hr (fun t ht hW => ⟨⟨x2, (th, g_113, ro), rfl, e, ⟨by rw [ht]; exact hP, by rw [hAe]; exact hD⟩⟩, hS.F ht⟩) hS.2.2 dX3_release_115
      · have e := e.trans (if_neg c_44)
        refine lv_aload_n hx hb dX3_release_47 rfl (lv_at hl 0 rfl) ?_
        refine va_get (D := D) (ci := 4) (v := .ref (md 6)) (C := RX3) (T := TX3) (N := 19) hx hb hts hinRX3 hown hK hP 0 rfl rfl 8 (by decide) (hts (.fieldLink RX3 25 "LicenceKeeperModel" "product" "[I") (by decide +kernel)) (fun _ h9 => h9) rfl dX3_release_48 ?_
        refine lv_iload_n hx hb dX3_release_51 rfl (lv_at hl 3 rfl) ?_
        obtain ⟨hi_52, e⟩ := kv_G_e e hRz
        refine kv_iald hx hb hK hP 6 0 hi_52 dX3_release_52 rfl rfl (fun y_52 ey_52 => ?_)
        have e := kv_T_e e ey_52
        refine lv_iload_n hx hb dX3_release_53 rfl (lv_at hl 1 rfl) ?_
        refine lv_icmp_ne (tgt := 98) hx hb dX3_release_54 (by decide) (fun c_54 => ?_) (fun c_54 => ?_)
        · have e := e.trans (if_neg c_54)
          refine lv_iinc (v := x3 + 1) (lv' := [(3, .int (x3 + 1)), (0, .ref (md 0)), (1, .int p0), (2, .int x2)]) hx hb dX3_release_98 hl (k := 3) rfl rfl (by decide) rfl (fun ls hl => ?_)
          refine lv_goto (tgt := 39) hx hb dX3_release_101 (by decide) ?_
          exact ih_39 x2 (x3 + 1) th la ro  _ _ _ hP hD hS (lv_sub hl [1, 2, 3, 0] rfl) e
        · have e := e.trans (if_pos c_54)
          refine lv_aload_n hx hb dX3_release_57 rfl (lv_at hl 0 rfl) ?_
          refine va_get (D := D) (ci := 4) (v := .ref (md 11)) (C := RX3) (T := TX3) (N := 19) hx hb hts hinRX3 hown hK hP 0 rfl rfl 13 (by decide) (hts (.fieldLink RX3 40 "LicenceKeeperModel" "last" "[I") (by decide +kernel)) (fun _ h9 => h9) rfl dX3_release_58 ?_
          refine lv_iload_n hx hb dX3_release_61 rfl (lv_at hl 3 rfl) ?_
          obtain ⟨hi_62, e⟩ := kv_G_e e hRz
          refine kv_iald hx hb hK hP 11 0 hi_62 dX3_release_62 rfl rfl (fun y_62 ey_62 => ?_)
          have e := kv_T_e e ey_62
          refine lv_aload_n hx hb dX3_release_63 rfl (lv_at hl 0 rfl) ?_
          refine va_get (D := D) (ci := 4) (v := .int nw) (C := RX3) (T := TX3) (N := 19) hx hb hts hinRX3 hown hK hP 0 rfl rfl 1 (by decide) (hts (.fieldLink RX3 85 "LicenceKeeperModel" "now" "I") (by decide +kernel)) (fun _ h9 => h9) rfl dX3_release_64 ?_
          refine lv_icmp_lt (tgt := 98) hx hb dX3_release_67 (by decide) (fun c_67 => ?_) (fun c_67 => ?_)
          · have e := e.trans (if_pos c_67)
            refine lv_iinc (v := x3 + 1) (lv' := [(3, .int (x3 + 1)), (0, .ref (md 0)), (1, .int p0), (2, .int x2)]) hx hb dX3_release_98 hl (k := 3) rfl rfl (by decide) rfl (fun ls hl => ?_)
            refine lv_goto (tgt := 39) hx hb dX3_release_101 (by decide) ?_
            exact ih_39 x2 (x3 + 1) th la ro  _ _ _ hP hD hS (lv_sub hl [1, 2, 3, 0] rfl) e
          · have e := e.trans (if_neg c_67)
            refine lv_aload_n hx hb dX3_release_70 rfl (lv_at hl 0 rfl) ?_
            refine va_get (D := D) (ci := 4) (v := .ref (md 10)) (C := RX3) (T := TX3) (N := 19) hx hb hts hinRX3 hown hK hP 0 rfl rfl 12 (by decide) (hts (.fieldLink RX3 37 "LicenceKeeperModel" "of" "[I") (by decide +kernel)) (fun _ h9 => h9) rfl dX3_release_71 ?_
            refine lv_iload_n hx hb dX3_release_74 rfl (lv_at hl 3 rfl) ?_
            obtain ⟨hi_75, e⟩ := kv_G_e e hRz
            refine kv_iald hx hb hK hP 10 0 hi_75 dX3_release_75 rfl rfl (fun y_75 ey_75 => ?_)
            have e := kv_T_e e ey_75
            refine lv_aload_n hx hb dX3_release_76 rfl (lv_at hl 0 rfl) ?_
            refine va_get (D := D) (ci := 4) (v := .ref (md 4)) (C := RX3) (T := TX3) (N := 19) hx hb hts hinRX3 hown hK hP 0 rfl rfl 5 (by decide) (hts (.fieldLink RX3 19 "LicenceKeeperModel" "latest" "[I") (by decide +kernel)) (fun _ h9 => h9) rfl dX3_release_77 ?_
            refine lv_iload_n hx hb dX3_release_80 rfl (lv_at hl 1 rfl) ?_
            obtain ⟨hi_81, e⟩ := kv_G_e e hRz
            refine kv_iald hx hb hK hP 4 0 hi_81 dX3_release_81 rfl rfl (fun y_81 ey_81 => ?_)
            have e := kv_T_e e ey_81
            refine lv_icmp_ne (tgt := 98) hx hb dX3_release_82 (by decide) (fun c_82 => ?_) (fun c_82 => ?_)
            · have e := e.trans (if_neg c_82)
              refine lv_iinc (v := x3 + 1) (lv' := [(3, .int (x3 + 1)), (0, .ref (md 0)), (1, .int p0), (2, .int x2)]) hx hb dX3_release_98 hl (k := 3) rfl rfl (by decide) rfl (fun ls hl => ?_)
              refine lv_goto (tgt := 39) hx hb dX3_release_101 (by decide) ?_
              exact ih_39 x2 (x3 + 1) th la ro  _ _ _ hP hD hS (lv_sub hl [1, 2, 3, 0] rfl) e
            · have e := e.trans (if_pos c_82)
              refine lv_aload_n hx hb dX3_release_85 rfl (lv_at hl 0 rfl) ?_
              refine va_get (D := D) (ci := 4) (v := .ref (md 10)) (C := RX3) (T := TX3) (N := 19) hx hb hts hinRX3 hown hK hP 0 rfl rfl 12 (by decide) (hts (.fieldLink RX3 37 "LicenceKeeperModel" "of" "[I") (by decide +kernel)) (fun _ h9 => h9) rfl dX3_release_86 ?_
              refine lv_iload_n hx hb dX3_release_89 rfl (lv_at hl 3 rfl) ?_
              refine lv_dup2_11 hx hb dX3_release_90 rfl rfl ?_
              obtain ⟨hi_91, e⟩ := kv_G_e e hRz
              refine kv_iald hx hb hK hP 10 0 hi_91 dX3_release_91 rfl rfl (fun y_91 ey_91 => ?_)
              have e := kv_T_e e ey_91
              refine lv_iconst (v := 1) hx hb dX3_release_92 (by decide) ?_
              refine lv_iadd hx hb dX3_release_93 ?_
              obtain ⟨hi_94, e⟩ := kv_G_e e hRz
              refine kv_iast hx hb hK hP hD hS 10 0 (fun g_94 => (kv_mw ci md th nw co ho ve la pr rg rp rm rc re g_94 rl cn tn tk sp ba)) hi_94 dX3_release_94 rfl rfl (fun _ => rfl) (fun g_94 H locs eg_94 hP hD hS => ?_)
              have e := kv_T_e e eg_94
              refine lv_iinc (v := x2 + 1) (lv' := [(2, .int (x2 + 1)), (0, .ref (md 0)), (1, .int p0), (3, .int x3)]) hx hb dX3_release_95 hl (k := 2) rfl rfl (by decide) rfl (fun ls hl => ?_)
              refine lv_iinc (v := x3 + 1) (lv' := [(3, .int (x3 + 1)), (2, .int (x2 + 1)), (0, .ref (md 0)), (1, .int p0)]) hx hb dX3_release_98 hl (k := 3) rfl rfl (by decide) rfl (fun ls hl => ?_)
              refine lv_goto (tgt := 39) hx hb dX3_release_101 (by decide) ?_
              exact ih_39 (x2 + 1) (x3 + 1) th la g_94  _ _ _ hP hD hS (lv_sub hl [2, 3, 1, 0] rfl) e
  refine lv_aload_n hx hb dX3_release_0 rfl (lv_at hl 0 rfl) ?_
  refine lv_iconst (v := 0) hx hb dX3_release_1 (by decide) ?_
  refine va_put (D := D) (ci := 4) (v := .int 0) (ty := .int) (C := RX3) (T := TX3) (N := 19) hx hb hts hinRX3 tyX3 tyX3_ok nmX3 hown hK hP hD hS 0 rfl rfl 0 (by decide) (hts (.fieldLink RX3 56 "LicenceKeeperModel" "thrown" "I") (by decide +kernel)) (fun _ h9 => h9) rfl (by decide +kernel) rfl rfl (Nat.le_of_ble_eq_true rfl) dX3_release_2 (fun H locs hP hD hS => ?_)
  have hP : va_P D vwCl (kv_mw ci md 0 nw co ho ve la pr rg rp rm rc re ro rl cn tn tk sp ba) H := hP
  have hD : va_D A (kv_mw ci md 0 nw co ho ve la pr rg rp rm rc re ro rl cn tn tk sp ba) := hD
  refine lv_iload_n hx hb dX3_release_5 rfl (lv_at hl 1 rfl) ?_
  refine kv_calli (va_runS (As := [.int p0]) (rest := []) ⟨hx, hb, hml, hown, hts⟩ (c_X3_isProduct l D ci md 0 nw co ho ve la pr rg rp rm rc re ro rl cn tn tk sp ba p0 (kv_q1_n e hRz) H.size) (va_cwS 1 hts gX3_release_X3_isProduct rfl rfl rfl (by decide +kernel) ⟨Nat.le_of_ble_eq_true rfl, Nat.le_of_ble_eq_true rfl⟩) (kv_preS hK hP hD) rfl rfl hl.1 rfl (lv_room (Nat.le_of_ble_eq_true rfl)) dX3_release_6 ⟨Nat.le_of_ble_eq_true rfl, Nat.le_of_ble_eq_true rfl⟩) hD hS hA (fun r_6 u_6 H locs hw_6 hP hD hS => ?_)
  have e := kv_q1_e e hw_6
  refine lv_if_ne (tgt := 18) hx hb dX3_release_9 (by decide) (fun c_9 => ?_) (fun c_9 => ?_)
  · have e := e.trans (if_neg c_9)
    refine lv_aload_n hx hb dX3_release_18 rfl (lv_at hl 0 rfl) ?_
    refine va_get (D := D) (ci := 4) (v := .ref (md 4)) (C := RX3) (T := TX3) (N := 19) hx hb hts hinRX3 hown hK hP 0 rfl rfl 5 (by decide) (hts (.fieldLink RX3 19 "LicenceKeeperModel" "latest" "[I") (by decide +kernel)) (fun _ h9 => h9) rfl dX3_release_19 ?_
    refine lv_iload_n hx hb dX3_release_22 rfl (lv_at hl 1 rfl) ?_
    obtain ⟨hi_23, e⟩ := kv_G_e e hRz
    refine kv_iald hx hb hK hP 4 0 hi_23 dX3_release_23 rfl rfl (fun y_23 ey_23 => ?_)
    have e := kv_T_e e ey_23
    refine lv_bipush (v := 9) hx hb dX3_release_24 (by decide) ?_
    refine lv_icmp_ne (tgt := 35) hx hb dX3_release_26 (by decide) (fun c_26 => ?_) (fun c_26 => ?_)
    · have e := e.trans (if_neg c_26)
      refine lv_iconst (v := 0) hx hb dX3_release_35 (by decide) ?_
      refine lv_istore_n (lv' := [(2, .int 0), (0, .ref (md 0)), (1, .int p0)]) hx hb dX3_release_36 rfl hl (by decide) rfl (fun ls hl => ?_)
      refine lv_iconst (v := 0) hx hb dX3_release_37 (by decide) ?_
      refine lv_istore_n (lv' := [(3, .int 0), (2, .int 0), (0, .ref (md 0)), (1, .int p0)]) hx hb dX3_release_38 rfl hl (by decide) rfl (fun ls hl => ?_)
      exact hb_39 kv_F 0 0 0 la ro  _ _ _ hP hD hS (lv_sub hl [2, 3, 1, 0] rfl) e
    · have e := e.trans (if_pos c_26)
      refine lv_aload_n hx hb dX3_release_29 rfl (lv_at hl 0 rfl) ?_
      refine lv_iconst (v := 2) hx hb dX3_release_30 (by decide) ?_
      refine kv_calli (va_runV (As := [.int 2]) (rest := []) ⟨hx, hb, hml, hown, hts⟩ (c_X3_fails l D ci md 0 nw co ho ve la pr rg rp rm rc re ro rl cn tn tk sp ba 2 (kv_q2_n e hRz) H.size) (cwV 1 hts gX3_release_X3_fails rfl rfl rfl (by decide +kernel) ⟨Nat.le_of_ble_eq_true rfl, Nat.le_of_ble_eq_true rfl⟩) (kv_preV hK hP hD (r := (RX3, TX3, 19)) (q0 := 0) (k := 4) rfl rfl rfl) rfl rfl hl.1 rfl (lv_room (Nat.le_of_ble_eq_true rfl)) dX3_release_31 ⟨Nat.le_of_ble_eq_true rfl, Nat.le_of_ble_eq_true rfl⟩) hD hS hA (fun r_31 u_31 H locs hw_31 hP hD hS => ?_)
      have e := kv_q2_e e hw_31
      have hP : va_P D vwCl (kv_mw ci md u_31 nw co ho ve la pr rg rp rm rc re ro rl cn tn tk sp ba) H := hP
      have hD : va_D A (kv_mw ci md u_31 nw co ho ve la pr rg rp rm rc re ro rl cn tn tk sp ba) := hD
      rw [hQ]
      exact W.iret (v := r_31) hx hb hr (fun t ht hW => ⟨⟨r_31, (u_31, la, ro), rfl, e, ⟨by rw [ht]; exact hP, by rw [hAe]; exact hD⟩⟩, hS.F ht⟩) hS.2.2 dX3_release_34
  · have e := e.trans (if_pos c_9)
    refine lv_aload_n hx hb dX3_release_12 rfl (lv_at hl 0 rfl) ?_
    refine lv_iconst (v := 1) hx hb dX3_release_13 (by decide) ?_
    refine kv_calli (va_runV (As := [.int 1]) (rest := []) ⟨hx, hb, hml, hown, hts⟩ (c_X3_fails l D ci md 0 nw co ho ve la pr rg rp rm rc re ro rl cn tn tk sp ba 1 (kv_q2_n e hRz) H.size) (cwV 1 hts gX3_release_X3_fails rfl rfl rfl (by decide +kernel) ⟨Nat.le_of_ble_eq_true rfl, Nat.le_of_ble_eq_true rfl⟩) (kv_preV hK hP hD (r := (RX3, TX3, 19)) (q0 := 0) (k := 4) rfl rfl rfl) rfl rfl hl.1 rfl (lv_room (Nat.le_of_ble_eq_true rfl)) dX3_release_14 ⟨Nat.le_of_ble_eq_true rfl, Nat.le_of_ble_eq_true rfl⟩) hD hS hA (fun r_14 u_14 H locs hw_14 hP hD hS => ?_)
    have e := kv_q2_e e hw_14
    have hP : va_P D vwCl (kv_mw ci md u_14 nw co ho ve la pr rg rp rm rc re ro rl cn tn tk sp ba) H := hP
    have hD : va_D A (kv_mw ci md u_14 nw co ho ve la pr rg rp rm rc re ro rl cn tn tk sp ba) := hD
    rw [hQ]
    exact W.iret (v := r_14) hx hb hr (fun t ht hW => ⟨⟨r_14, (u_14, la, ro), rfl, e, ⟨by rw [ht]; exact hP, by rw [hAe]; exact hD⟩⟩, hS.F ht⟩) hS.2.2 dX3_release_17

def pf_X3_lays (la : Nat → Int32) (p0 : Int32) (p1 : Int32) (p2 : Int32) (p3 : Int32) (rg : Int32) (rp : Nat → Int32) (rm : Nat → Int32) (rc : Nat → Int32) (ro : Nat → Int32) (rl : Nat → Int32) : Option (Int32 × Int32 × (Nat → Int32) × (Nat → Int32) × (Nat → Int32) × (Nat → Int32) × (Nat → Int32)) :=
  kv_G rg 12 (kv_T (upd rp rg.toNatClampNeg p0) (fun g_9 => kv_G rg 12 (kv_T (upd rm rg.toNatClampNeg p1) (fun g_19 => kv_G rg 12 (kv_T (upd rc rg.toNatClampNeg p2) (fun g_29 => kv_G rg 12 (kv_T (upd rl rg.toNatClampNeg p3) (fun g_40 => kv_G p0 4 (kv_T (la p0.toNatClampNeg) (fun y_54 => kv_G rg 12 (kv_T (upd ro rg.toNatClampNeg y_54) (fun g_55 => kv_T (rg + 1) (fun y_63 => some ((y_63 - 1), y_63, g_9, g_19, g_29, g_55, g_40))))))))))))))
abbrev rmX3_lays : Room := { frames := 0, cells := 0, slots := 0, locals := 0 }
set_option maxHeartbeats 4000000 in
set_option maxRecDepth 100000 in
theorem c_X3_lays (l : Launch) (D : va_G) (ci md : Nat → Nat) (th : Int32) (nw : Int32) (co : Nat → Int32) (ho : Nat → Int32) (ve : Nat → Int32) (la : Nat → Int32) (pr : Nat → Int32) (rg : Int32) (rp : Nat → Int32) (rm : Nat → Int32) (rc : Nat → Int32) (re : Nat → Int32) (ro : Nat → Int32) (rl : Nat → Int32) (cn : Nat → Int32) (tn : Nat → Int32) (tk : Nat → Int32) (sp : Nat → Int32) (ba : Int32) (p0 : Int32) (p1 : Int32) (p2 : Int32) (p3 : Int32)  (hRn : pf_X3_lays la p0 p1 p2 p3 rg rp rm rc ro rl ≠ none) (sz : Nat) : Met l yX3_lays wsX3_lays rmX3_lays (va_Pc [.ref (md 0), .int p0, .int p1, .int p2, .int p3] (kv_pre D ci (kv_mw ci md th nw co ho ve la pr rg rp rm rc re ro rl cn tn tk sp ba) sz)) (va_Qi (fun (r : Int32) (u : Int32 × (Nat → Int32) × (Nat → Int32) × (Nat → Int32) × (Nat → Int32) × (Nat → Int32)) => pf_X3_lays la p0 p1 p2 p3 rg rp rm rc ro rl = some (r, u)) (fun u t => kv_post D (kv_mw ci md th nw co ho ve la pr rg rp rm rc re ro rl cn tn tk sp ba) sz (kv_mw ci md th nw co ho ve la pr u.1 u.2.1 u.2.2.1 u.2.2.2.1 re u.2.2.2.2.1 u.2.2.2.2.2 cn tn tk sp ba) t) (va_A (kv_mw ci md th nw co ho ve la pr rg rp rm rc re ro rl cn tn tk sp ba) sz)) 0 0 (va_A (kv_mw ci md th nw co ho ve la pr rg rp rm rc re ro rl cn tn tk sp ba) sz) := by
  refine Met.ofW (cc := cX3_lays) (maxL := 5) (ret := (some .int)) (by decide) rfl ?_
  intro p en s m args below meth c s₁ B hml hv
  obtain ⟨hv0, hsz, hP, hK, hD0⟩ := hv
  have hx := B.exec
  have hb := B.bytes
  have hr := B.returns
  have hts := atoms_spec (ws := wsX3_lays) B.pre
  have hown : s.vm.findClass RX3 = some m.cls := findClass_of_methodNamed B.named
  have hlocks := B.notSynchronized
  subst hsz
  have hD := hD0.self (sz := s.heap.size)
  generalize hAe : va_A (kv_mw ci md th nw co ho ve la pr rg rp rm rc re ro rl cn tn tk sp ba) s.heap.size = A at hD ⊢
  have hA : ∀ q : Nat, s.heap.size ≤ q → A q := fun q h => by rw [← hAe]; exact Or.inr h
  have hS : va_S A s.heap s.heap [] := va_S.rf
  have hP : va_P D vwCl (kv_mw ci md th nw co ho ve la pr rg rp rm rc re ro rl cn tn tk sp ba) s.heap := hP
  have hinRX3 : ∀ w ∈ u_ws RX3 TX3 19, w ∈ wsX3_lays := by decide +kernel
  generalize hRd : pf_X3_lays la p0 p1 p2 p3 rg rp rm rc ro rl = Rz at hRn
  have hRz := hRn
  refine kv_Q (fun Q hQ => ?_)
  refine W.eq (show entryFrame m args 5 = _ from by rw [hv0, lg_entry_eq]) ?_
  have hl := lv_entry ([.ref (md 0), .int p0, .int p1, .int p2, .int p3]) (n := 5) (Nat.le_of_ble_eq_true rfl)
  generalize (lg_sl ([.ref (md 0), .int p0, .int p1, .int p2, .int p3]) ++ List.replicate (5 - (lg_sl ([.ref (md 0), .int p0, .int p1, .int p2, .int p3])).length) Slot.unset).toArray = ls at hl ⊢
  have hl : lv_has ls 5 [(0, .ref (md 0)), (1, .int p0), (2, .int p1), (3, .int p2), (4, .int p3)] := hl
  have e : Rz = pf_X3_lays la p0 p1 p2 p3 rg rp rm rc ro rl := hRd.symm
  rw [pf_X3_lays] at e
  refine lv_aload_n hx hb dX3_lays_0 rfl (lv_at hl 0 rfl) ?_
  refine va_get (D := D) (ci := 4) (v := .ref (md 6)) (C := RX3) (T := TX3) (N := 19) hx hb hts hinRX3 hown hK hP 0 rfl rfl 8 (by decide) (hts (.fieldLink RX3 25 "LicenceKeeperModel" "product" "[I") (by decide +kernel)) (fun _ h9 => h9) rfl dX3_lays_1 ?_
  refine lv_aload_n hx hb dX3_lays_4 rfl (lv_at hl 0 rfl) ?_
  refine va_get (D := D) (ci := 4) (v := .int rg) (C := RX3) (T := TX3) (N := 19) hx hb hts hinRX3 hown hK hP 0 rfl rfl 7 (by decide) (hts (.fieldLink RX3 64 "LicenceKeeperModel" "rights" "I") (by decide +kernel)) (fun _ h9 => h9) rfl dX3_lays_5 ?_
  refine lv_iload_n hx hb dX3_lays_8 rfl (lv_at hl 1 rfl) ?_
  obtain ⟨hi_9, e⟩ := kv_G_e e hRz
  refine kv_iast hx hb hK hP hD hS 6 0 (fun g_9 => (kv_mw ci md th nw co ho ve la pr rg g_9 rm rc re ro rl cn tn tk sp ba)) hi_9 dX3_lays_9 rfl rfl (fun _ => rfl) (fun g_9 H locs eg_9 hP hD hS => ?_)
  have e := kv_T_e e eg_9
  refine lv_aload_n hx hb dX3_lays_10 rfl (lv_at hl 0 rfl) ?_
  refine va_get (D := D) (ci := 4) (v := .ref (md 7)) (C := RX3) (T := TX3) (N := 19) hx hb hts hinRX3 hown hK hP 0 rfl rfl 9 (by decide) (hts (.fieldLink RX3 28 "LicenceKeeperModel" "measure" "[I") (by decide +kernel)) (fun _ h9 => h9) rfl dX3_lays_11 ?_
  refine lv_aload_n hx hb dX3_lays_14 rfl (lv_at hl 0 rfl) ?_
  refine va_get (D := D) (ci := 4) (v := .int rg) (C := RX3) (T := TX3) (N := 19) hx hb hts hinRX3 hown hK hP 0 rfl rfl 7 (by decide) (hts (.fieldLink RX3 64 "LicenceKeeperModel" "rights" "I") (by decide +kernel)) (fun _ h9 => h9) rfl dX3_lays_15 ?_
  refine lv_iload_n hx hb dX3_lays_18 rfl (lv_at hl 2 rfl) ?_
  obtain ⟨hi_19, e⟩ := kv_G_e e hRz
  refine kv_iast hx hb hK hP hD hS 7 0 (fun g_19 => (kv_mw ci md th nw co ho ve la pr rg g_9 g_19 rc re ro rl cn tn tk sp ba)) hi_19 dX3_lays_19 rfl rfl (fun _ => rfl) (fun g_19 H locs eg_19 hP hD hS => ?_)
  have e := kv_T_e e eg_19
  refine lv_aload_n hx hb dX3_lays_20 rfl (lv_at hl 0 rfl) ?_
  refine va_get (D := D) (ci := 4) (v := .ref (md 8)) (C := RX3) (T := TX3) (N := 19) hx hb hts hinRX3 hown hK hP 0 rfl rfl 10 (by decide) (hts (.fieldLink RX3 31 "LicenceKeeperModel" "count" "[I") (by decide +kernel)) (fun _ h9 => h9) rfl dX3_lays_21 ?_
  refine lv_aload_n hx hb dX3_lays_24 rfl (lv_at hl 0 rfl) ?_
  refine va_get (D := D) (ci := 4) (v := .int rg) (C := RX3) (T := TX3) (N := 19) hx hb hts hinRX3 hown hK hP 0 rfl rfl 7 (by decide) (hts (.fieldLink RX3 64 "LicenceKeeperModel" "rights" "I") (by decide +kernel)) (fun _ h9 => h9) rfl dX3_lays_25 ?_
  refine lv_iload_n hx hb dX3_lays_28 rfl (lv_at hl 3 rfl) ?_
  obtain ⟨hi_29, e⟩ := kv_G_e e hRz
  refine kv_iast hx hb hK hP hD hS 8 0 (fun g_29 => (kv_mw ci md th nw co ho ve la pr rg g_9 g_19 g_29 re ro rl cn tn tk sp ba)) hi_29 dX3_lays_29 rfl rfl (fun _ => rfl) (fun g_29 H locs eg_29 hP hD hS => ?_)
  have e := kv_T_e e eg_29
  refine lv_aload_n hx hb dX3_lays_30 rfl (lv_at hl 0 rfl) ?_
  refine va_get (D := D) (ci := 4) (v := .ref (md 11)) (C := RX3) (T := TX3) (N := 19) hx hb hts hinRX3 hown hK hP 0 rfl rfl 13 (by decide) (hts (.fieldLink RX3 40 "LicenceKeeperModel" "last" "[I") (by decide +kernel)) (fun _ h9 => h9) rfl dX3_lays_31 ?_
  refine lv_aload_n hx hb dX3_lays_34 rfl (lv_at hl 0 rfl) ?_
  refine va_get (D := D) (ci := 4) (v := .int rg) (C := RX3) (T := TX3) (N := 19) hx hb hts hinRX3 hown hK hP 0 rfl rfl 7 (by decide) (hts (.fieldLink RX3 64 "LicenceKeeperModel" "rights" "I") (by decide +kernel)) (fun _ h9 => h9) rfl dX3_lays_35 ?_
  refine lv_iload hx hb dX3_lays_38 (lv_at hl 4 rfl) ?_
  obtain ⟨hi_40, e⟩ := kv_G_e e hRz
  refine kv_iast hx hb hK hP hD hS 11 0 (fun g_40 => (kv_mw ci md th nw co ho ve la pr rg g_9 g_19 g_29 re ro g_40 cn tn tk sp ba)) hi_40 dX3_lays_40 rfl rfl (fun _ => rfl) (fun g_40 H locs eg_40 hP hD hS => ?_)
  have e := kv_T_e e eg_40
  refine lv_aload_n hx hb dX3_lays_41 rfl (lv_at hl 0 rfl) ?_
  refine va_get (D := D) (ci := 4) (v := .ref (md 10)) (C := RX3) (T := TX3) (N := 19) hx hb hts hinRX3 hown hK hP 0 rfl rfl 12 (by decide) (hts (.fieldLink RX3 37 "LicenceKeeperModel" "of" "[I") (by decide +kernel)) (fun _ h9 => h9) rfl dX3_lays_42 ?_
  refine lv_aload_n hx hb dX3_lays_45 rfl (lv_at hl 0 rfl) ?_
  refine va_get (D := D) (ci := 4) (v := .int rg) (C := RX3) (T := TX3) (N := 19) hx hb hts hinRX3 hown hK hP 0 rfl rfl 7 (by decide) (hts (.fieldLink RX3 64 "LicenceKeeperModel" "rights" "I") (by decide +kernel)) (fun _ h9 => h9) rfl dX3_lays_46 ?_
  refine lv_aload_n hx hb dX3_lays_49 rfl (lv_at hl 0 rfl) ?_
  refine va_get (D := D) (ci := 4) (v := .ref (md 4)) (C := RX3) (T := TX3) (N := 19) hx hb hts hinRX3 hown hK hP 0 rfl rfl 5 (by decide) (hts (.fieldLink RX3 19 "LicenceKeeperModel" "latest" "[I") (by decide +kernel)) (fun _ h9 => h9) rfl dX3_lays_50 ?_
  refine lv_iload_n hx hb dX3_lays_53 rfl (lv_at hl 1 rfl) ?_
  obtain ⟨hi_54, e⟩ := kv_G_e e hRz
  refine kv_iald hx hb hK hP 4 0 hi_54 dX3_lays_54 rfl rfl (fun y_54 ey_54 => ?_)
  have e := kv_T_e e ey_54
  obtain ⟨hi_55, e⟩ := kv_G_e e hRz
  refine kv_iast hx hb hK hP hD hS 10 0 (fun g_55 => (kv_mw ci md th nw co ho ve la pr rg g_9 g_19 g_29 re g_55 g_40 cn tn tk sp ba)) hi_55 dX3_lays_55 rfl rfl (fun _ => rfl) (fun g_55 H locs eg_55 hP hD hS => ?_)
  have e := kv_T_e e eg_55
  refine lv_aload_n hx hb dX3_lays_56 rfl (lv_at hl 0 rfl) ?_
  refine lv_dup hx hb dX3_lays_57 rfl ?_
  refine va_get (D := D) (ci := 4) (v := .int rg) (C := RX3) (T := TX3) (N := 19) hx hb hts hinRX3 hown hK hP 0 rfl rfl 7 (by decide) (hts (.fieldLink RX3 64 "LicenceKeeperModel" "rights" "I") (by decide +kernel)) (fun _ h9 => h9) rfl dX3_lays_58 ?_
  refine lv_iconst (v := 1) hx hb dX3_lays_61 (by decide) ?_
  refine lv_iadd hx hb dX3_lays_62 ?_
  refine lv_topi (fun y_63 ey_63 => ?_)
  have e := kv_T_e e ey_63
  refine va_put (D := D) (ci := 4) (v := .int y_63) (ty := .int) (C := RX3) (T := TX3) (N := 19) hx hb hts hinRX3 tyX3 tyX3_ok nmX3 hown hK hP hD hS 0 rfl rfl 7 (by decide) (hts (.fieldLink RX3 64 "LicenceKeeperModel" "rights" "I") (by decide +kernel)) (fun _ h9 => h9) rfl (by decide +kernel) rfl rfl (Nat.le_of_ble_eq_true rfl) dX3_lays_63 (fun H locs hP hD hS => ?_)
  have hP : va_P D vwCl (kv_mw ci md th nw co ho ve la pr y_63 g_9 g_19 g_29 re g_55 g_40 cn tn tk sp ba) H := hP
  have hD : va_D A (kv_mw ci md th nw co ho ve la pr y_63 g_9 g_19 g_29 re g_55 g_40 cn tn tk sp ba) := hD
  refine lv_aload_n hx hb dX3_lays_66 rfl (lv_at hl 0 rfl) ?_
  refine va_get (D := D) (ci := 4) (v := .int y_63) (C := RX3) (T := TX3) (N := 19) hx hb hts hinRX3 hown hK hP 0 rfl rfl 7 (by decide) (hts (.fieldLink RX3 64 "LicenceKeeperModel" "rights" "I") (by decide +kernel)) (fun _ h9 => h9) rfl dX3_lays_67 ?_
  refine lv_iconst (v := 1) hx hb dX3_lays_70 (by decide) ?_
  refine lv_isub hx hb dX3_lays_71 ?_
  rw [hQ]
  exact W.iret (v := (y_63 - 1)) hx hb hr (fun t ht hW => ⟨⟨(y_63 - 1), (y_63, g_9, g_19, g_29, g_55, g_40), rfl, e, ⟨by rw [ht]; exact hP, by rw [hAe]; exact hD⟩⟩, hS.F ht⟩) hS.2.2 dX3_lays_72

def pf_X3_buy_50 (nw : Int32) (la : Nat → Int32) (p0 : Int32) (p1 : Int32) (p2 : Int32) (p3 : Int32)   (th : Int32) (rg : Int32) (rp : Nat → Int32) (rm : Nat → Int32) (rc : Nat → Int32) (ro : Nat → Int32) (rl : Nat → Int32) : Option (Int32 × Int32 × Int32 × (Nat → Int32) × (Nat → Int32) × (Nat → Int32) × (Nat → Int32) × (Nat → Int32)) :=
  kv_q2 (pf_X3_fails 2 th) (fun r_52 u_52 => some (r_52, u_52, rg, rp, rm, rc, ro, rl))
def pf_X3_buy (nw : Int32) (la : Nat → Int32) (p0 : Int32) (p1 : Int32) (p2 : Int32) (p3 : Int32) (th : Int32) (rg : Int32) (rp : Nat → Int32) (rm : Nat → Int32) (rc : Nat → Int32) (ro : Nat → Int32) (rl : Nat → Int32) : Option (Int32 × Int32 × Int32 × (Nat → Int32) × (Nat → Int32) × (Nat → Int32) × (Nat → Int32) × (Nat → Int32)) :=
  kv_q1 (pf_X3_isProduct p0) (fun r_6 => if r_6 = 0 then kv_q2 (pf_X3_fails 1 0) (fun r_14 u_14 => some (r_14, u_14, rg, rp, rm, rc, ro, rl)) else kv_q1 (pf_X3_in p1 0 1) (fun r_21 => if r_21 = 0 then pf_X3_buy_50 nw la p0 p1 p2 p3 0 rg rp rm rc ro rl else kv_q1 (pf_X3_in p2 1 500) (fun r_32 => if r_32 = 0 then pf_X3_buy_50 nw la p0 p1 p2 p3 0 rg rp rm rc ro rl else kv_q1 (pf_X3_in p3 0 1000) (fun r_44 => if r_44 = 0 then pf_X3_buy_50 nw la p0 p1 p2 p3 0 rg rp rm rc ro rl else if rg = 12 then kv_q2 (pf_X3_fails 3 0) (fun r_67 u_67 => some (r_67, u_67, rg, rp, rm, rc, ro, rl)) else kv_q7 (pf_X3_lays la p0 p1 p2 ((nw + p3) - 1) rg rp rm rc ro rl) (fun r_86 o0_86 o1_86 o2_86 o3_86 o4_86 o5_86 => some (r_86, 0, o0_86, o1_86, o2_86, o3_86, o4_86, o5_86))))))
abbrev rmX3_buy : Room := { frames := 2, cells := 0, slots := 0, locals := 42 }
set_option maxHeartbeats 4000000 in
set_option maxRecDepth 100000 in
theorem c_X3_buy (l : Launch) (D : va_G) (ci md : Nat → Nat) (th : Int32) (nw : Int32) (co : Nat → Int32) (ho : Nat → Int32) (ve : Nat → Int32) (la : Nat → Int32) (pr : Nat → Int32) (rg : Int32) (rp : Nat → Int32) (rm : Nat → Int32) (rc : Nat → Int32) (re : Nat → Int32) (ro : Nat → Int32) (rl : Nat → Int32) (cn : Nat → Int32) (tn : Nat → Int32) (tk : Nat → Int32) (sp : Nat → Int32) (ba : Int32) (p0 : Int32) (p1 : Int32) (p2 : Int32) (p3 : Int32)  (hRn : pf_X3_buy nw la p0 p1 p2 p3 th rg rp rm rc ro rl ≠ none) (sz : Nat) : Met l yX3_buy wsX3_buy rmX3_buy (va_Pc [.ref (md 0), .int p0, .int p1, .int p2, .int p3] (kv_pre D ci (kv_mw ci md th nw co ho ve la pr rg rp rm rc re ro rl cn tn tk sp ba) sz)) (va_Qi (fun (r : Int32) (u : Int32 × Int32 × (Nat → Int32) × (Nat → Int32) × (Nat → Int32) × (Nat → Int32) × (Nat → Int32)) => pf_X3_buy nw la p0 p1 p2 p3 th rg rp rm rc ro rl = some (r, u)) (fun u t => kv_post D (kv_mw ci md th nw co ho ve la pr rg rp rm rc re ro rl cn tn tk sp ba) sz (kv_mw ci md u.1 nw co ho ve la pr u.2.1 u.2.2.1 u.2.2.2.1 u.2.2.2.2.1 re u.2.2.2.2.2.1 u.2.2.2.2.2.2 cn tn tk sp ba) t) (va_A (kv_mw ci md th nw co ho ve la pr rg rp rm rc re ro rl cn tn tk sp ba) sz)) 0 0 (va_A (kv_mw ci md th nw co ho ve la pr rg rp rm rc re ro rl cn tn tk sp ba) sz) := by
  refine Met.ofW (cc := cX3_buy) (maxL := 5) (ret := (some .int)) (by decide) rfl ?_
  intro p en s m args below meth c s₁ B hml hv
  obtain ⟨hv0, hsz, hP, hK, hD0⟩ := hv
  have hx := B.exec
  have hb := B.bytes
  have hr := B.returns
  have hts := atoms_spec (ws := wsX3_buy) B.pre
  have hown : s.vm.findClass RX3 = some m.cls := findClass_of_methodNamed B.named
  have hlocks := B.notSynchronized
  subst hsz
  have hD := hD0.self (sz := s.heap.size)
  generalize hAe : va_A (kv_mw ci md th nw co ho ve la pr rg rp rm rc re ro rl cn tn tk sp ba) s.heap.size = A at hD ⊢
  have hA : ∀ q : Nat, s.heap.size ≤ q → A q := fun q h => by rw [← hAe]; exact Or.inr h
  have hS : va_S A s.heap s.heap [] := va_S.rf
  have hP : va_P D vwCl (kv_mw ci md th nw co ho ve la pr rg rp rm rc re ro rl cn tn tk sp ba) s.heap := hP
  have hinRX3 : ∀ w ∈ u_ws RX3 TX3 19, w ∈ wsX3_buy := by decide +kernel
  generalize hRd : pf_X3_buy nw la p0 p1 p2 p3 th rg rp rm rc ro rl = Rz at hRn
  have hRz := hRn
  refine kv_Q (fun Q hQ => ?_)
  refine W.eq (show entryFrame m args 5 = _ from by rw [hv0, lg_entry_eq]) ?_
  have hl := lv_entry ([.ref (md 0), .int p0, .int p1, .int p2, .int p3]) (n := 5) (Nat.le_of_ble_eq_true rfl)
  generalize (lg_sl ([.ref (md 0), .int p0, .int p1, .int p2, .int p3]) ++ List.replicate (5 - (lg_sl ([.ref (md 0), .int p0, .int p1, .int p2, .int p3])).length) Slot.unset).toArray = ls at hl ⊢
  have hl : lv_has ls 5 [(0, .ref (md 0)), (1, .int p0), (2, .int p1), (3, .int p2), (4, .int p3)] := hl
  have e : Rz = pf_X3_buy nw la p0 p1 p2 p3 th rg rp rm rc ro rl := hRd.symm
  rw [pf_X3_buy] at e
  have hb_50 : ∀ (th : Int32) (rg : Int32) (rp : Nat → Int32) (rm : Nat → Int32) (rc : Nat → Int32) (ro : Nat → Int32) (rl : Nat → Int32) (H : Heap) (locs : List Loc) (ls : Array Slot), va_P D vwCl (kv_mw ci md th nw co ho ve la pr rg rp rm rc re ro rl cn tn tk sp ba) H → va_D A (kv_mw ci md th nw co ho ve la pr rg rp rm rc re ro rl cn tn tk sp ba) → va_S A s.heap H locs → lv_has ls 5 [(0, .ref (md 0))] → Rz = pf_X3_buy_50 nw la p0 p1 p2 p3  th rg rp rm rc ro rl → W p l en rmX3_buy s m args below meth c H locs 0 0 Q (F0 m 50 ls []) := by
    intro th rg rp rm rc ro rl H locs ls  hP hD hS hl e
    rw [pf_X3_buy_50] at e
    refine lv_aload_n hx hb dX3_buy_50 rfl (lv_at hl 0 rfl) ?_
    refine lv_iconst (v := 2) hx hb dX3_buy_51 (by decide) ?_
    refine kv_calli (va_runV (As := [.int 2]) (rest := []) ⟨hx, hb, hml, hown, hts⟩ (c_X3_fails l D ci md th nw co ho ve la pr rg rp rm rc re ro rl cn tn tk sp ba 2 (kv_q2_n e hRz) H.size) (cwV 1 hts gX3_buy_X3_fails rfl rfl rfl (by decide +kernel) ⟨Nat.le_of_ble_eq_true rfl, Nat.le_of_ble_eq_true rfl⟩) (kv_preV hK hP hD (r := (RX3, TX3, 19)) (q0 := 0) (k := 4) rfl rfl rfl) rfl rfl hl.1 rfl (lv_room (Nat.le_of_ble_eq_true rfl)) dX3_buy_52 ⟨Nat.le_of_ble_eq_true rfl, Nat.le_of_ble_eq_true rfl⟩) hD hS hA (fun r_52 u_52 H locs hw_52 hP hD hS => ?_)
    have e := kv_q2_e e hw_52
    have hP : va_P D vwCl (kv_mw ci md u_52 nw co ho ve la pr rg rp rm rc re ro rl cn tn tk sp ba) H := hP
    have hD : va_D A (kv_mw ci md u_52 nw co ho ve la pr rg rp rm rc re ro rl cn tn tk sp ba) := hD
    rw [hQ]
    exact W.iret (v := r_52) hx hb hr (fun t ht hW => ⟨⟨r_52, (u_52, rg, rp, rm, rc, ro, rl), rfl, e, ⟨by rw [ht]; exact hP, by rw [hAe]; exact hD⟩⟩, hS.F ht⟩) hS.2.2 dX3_buy_55
  refine lv_aload_n hx hb dX3_buy_0 rfl (lv_at hl 0 rfl) ?_
  refine lv_iconst (v := 0) hx hb dX3_buy_1 (by decide) ?_
  refine va_put (D := D) (ci := 4) (v := .int 0) (ty := .int) (C := RX3) (T := TX3) (N := 19) hx hb hts hinRX3 tyX3 tyX3_ok nmX3 hown hK hP hD hS 0 rfl rfl 0 (by decide) (hts (.fieldLink RX3 56 "LicenceKeeperModel" "thrown" "I") (by decide +kernel)) (fun _ h9 => h9) rfl (by decide +kernel) rfl rfl (Nat.le_of_ble_eq_true rfl) dX3_buy_2 (fun H locs hP hD hS => ?_)
  have hP : va_P D vwCl (kv_mw ci md 0 nw co ho ve la pr rg rp rm rc re ro rl cn tn tk sp ba) H := hP
  have hD : va_D A (kv_mw ci md 0 nw co ho ve la pr rg rp rm rc re ro rl cn tn tk sp ba) := hD
  refine lv_iload_n hx hb dX3_buy_5 rfl (lv_at hl 1 rfl) ?_
  refine kv_calli (va_runS (As := [.int p0]) (rest := []) ⟨hx, hb, hml, hown, hts⟩ (c_X3_isProduct l D ci md 0 nw co ho ve la pr rg rp rm rc re ro rl cn tn tk sp ba p0 (kv_q1_n e hRz) H.size) (va_cwS 1 hts gX3_buy_X3_isProduct rfl rfl rfl (by decide +kernel) ⟨Nat.le_of_ble_eq_true rfl, Nat.le_of_ble_eq_true rfl⟩) (kv_preS hK hP hD) rfl rfl hl.1 rfl (lv_room (Nat.le_of_ble_eq_true rfl)) dX3_buy_6 ⟨Nat.le_of_ble_eq_true rfl, Nat.le_of_ble_eq_true rfl⟩) hD hS hA (fun r_6 u_6 H locs hw_6 hP hD hS => ?_)
  have e := kv_q1_e e hw_6
  refine lv_if_ne (tgt := 18) hx hb dX3_buy_9 (by decide) (fun c_9 => ?_) (fun c_9 => ?_)
  · have e := e.trans (if_neg c_9)
    refine lv_iload_n hx hb dX3_buy_18 rfl (lv_at hl 2 rfl) ?_
    refine lv_iconst (v := 0) hx hb dX3_buy_19 (by decide) ?_
    refine lv_iconst (v := 1) hx hb dX3_buy_20 (by decide) ?_
    refine kv_calli (va_runS (As := [.int p1, .int 0, .int 1]) (rest := []) ⟨hx, hb, hml, hown, hts⟩ (c_X3_in l D ci md 0 nw co ho ve la pr rg rp rm rc re ro rl cn tn tk sp ba p1 0 1 (kv_q1_n e hRz) H.size) (va_cwS 3 hts gX3_buy_X3_in rfl rfl rfl (by decide +kernel) ⟨Nat.le_of_ble_eq_true rfl, Nat.le_of_ble_eq_true rfl⟩) (kv_preS hK hP hD) rfl rfl hl.1 rfl (lv_room (Nat.le_of_ble_eq_true rfl)) dX3_buy_21 ⟨Nat.le_of_ble_eq_true rfl, Nat.le_of_ble_eq_true rfl⟩) hD hS hA (fun r_21 u_21 H locs hw_21 hP hD hS => ?_)
    have e := kv_q1_e e hw_21
    refine lv_if_eq (tgt := 50) hx hb dX3_buy_24 (by decide) (fun c_24 => ?_) (fun c_24 => ?_)
    · have e := e.trans (if_pos c_24)
      exact hb_50 0 rg rp rm rc ro rl  _ _ _ hP hD hS (lv_sub hl [0] rfl) e
    · have e := e.trans (if_neg c_24)
      refine lv_iload_n hx hb dX3_buy_27 rfl (lv_at hl 3 rfl) ?_
      refine lv_iconst (v := 1) hx hb dX3_buy_28 (by decide) ?_
      refine lv_sipush (v := 500) hx hb dX3_buy_29 (by decide) ?_
      refine kv_calli (va_runS (As := [.int p2, .int 1, .int 500]) (rest := []) ⟨hx, hb, hml, hown, hts⟩ (c_X3_in l D ci md 0 nw co ho ve la pr rg rp rm rc re ro rl cn tn tk sp ba p2 1 500 (kv_q1_n e hRz) H.size) (va_cwS 3 hts gX3_buy_X3_in rfl rfl rfl (by decide +kernel) ⟨Nat.le_of_ble_eq_true rfl, Nat.le_of_ble_eq_true rfl⟩) (kv_preS hK hP hD) rfl rfl hl.1 rfl (lv_room (Nat.le_of_ble_eq_true rfl)) dX3_buy_32 ⟨Nat.le_of_ble_eq_true rfl, Nat.le_of_ble_eq_true rfl⟩) hD hS hA (fun r_32 u_32 H locs hw_32 hP hD hS => ?_)
      have e := kv_q1_e e hw_32
      refine lv_if_eq (tgt := 50) hx hb dX3_buy_35 (by decide) (fun c_35 => ?_) (fun c_35 => ?_)
      · have e := e.trans (if_pos c_35)
        exact hb_50 0 rg rp rm rc ro rl  _ _ _ hP hD hS (lv_sub hl [0] rfl) e
      · have e := e.trans (if_neg c_35)
        refine lv_iload hx hb dX3_buy_38 (lv_at hl 4 rfl) ?_
        refine lv_iconst (v := 0) hx hb dX3_buy_40 (by decide) ?_
        refine lv_sipush (v := 1000) hx hb dX3_buy_41 (by decide) ?_
        refine kv_calli (va_runS (As := [.int p3, .int 0, .int 1000]) (rest := []) ⟨hx, hb, hml, hown, hts⟩ (c_X3_in l D ci md 0 nw co ho ve la pr rg rp rm rc re ro rl cn tn tk sp ba p3 0 1000 (kv_q1_n e hRz) H.size) (va_cwS 3 hts gX3_buy_X3_in rfl rfl rfl (by decide +kernel) ⟨Nat.le_of_ble_eq_true rfl, Nat.le_of_ble_eq_true rfl⟩) (kv_preS hK hP hD) rfl rfl hl.1 rfl (lv_room (Nat.le_of_ble_eq_true rfl)) dX3_buy_44 ⟨Nat.le_of_ble_eq_true rfl, Nat.le_of_ble_eq_true rfl⟩) hD hS hA (fun r_44 u_44 H locs hw_44 hP hD hS => ?_)
        have e := kv_q1_e e hw_44
        refine lv_if_ne (tgt := 56) hx hb dX3_buy_47 (by decide) (fun c_47 => ?_) (fun c_47 => ?_)
        · have e := e.trans (if_neg c_47)
          refine lv_aload_n hx hb dX3_buy_56 rfl (lv_at hl 0 rfl) ?_
          refine va_get (D := D) (ci := 4) (v := .int rg) (C := RX3) (T := TX3) (N := 19) hx hb hts hinRX3 hown hK hP 0 rfl rfl 7 (by decide) (hts (.fieldLink RX3 64 "LicenceKeeperModel" "rights" "I") (by decide +kernel)) (fun _ h9 => h9) rfl dX3_buy_57 ?_
          refine lv_bipush (v := 12) hx hb dX3_buy_60 (by decide) ?_
          refine lv_icmp_ne (tgt := 73) hx hb dX3_buy_62 (by decide) (fun c_62 => ?_) (fun c_62 => ?_)
          · have e := e.trans (if_neg c_62)
            refine lv_aload_n hx hb dX3_buy_73 rfl (lv_at hl 0 rfl) ?_
            refine lv_iload_n hx hb dX3_buy_74 rfl (lv_at hl 1 rfl) ?_
            refine lv_iload_n hx hb dX3_buy_75 rfl (lv_at hl 2 rfl) ?_
            refine lv_iload_n hx hb dX3_buy_76 rfl (lv_at hl 3 rfl) ?_
            refine lv_aload_n hx hb dX3_buy_77 rfl (lv_at hl 0 rfl) ?_
            refine va_get (D := D) (ci := 4) (v := .int nw) (C := RX3) (T := TX3) (N := 19) hx hb hts hinRX3 hown hK hP 0 rfl rfl 1 (by decide) (hts (.fieldLink RX3 85 "LicenceKeeperModel" "now" "I") (by decide +kernel)) (fun _ h9 => h9) rfl dX3_buy_78 ?_
            refine lv_iload hx hb dX3_buy_81 (lv_at hl 4 rfl) ?_
            refine lv_iadd hx hb dX3_buy_83 ?_
            refine lv_iconst (v := 1) hx hb dX3_buy_84 (by decide) ?_
            refine lv_isub hx hb dX3_buy_85 ?_
            refine kv_calli (va_runV (As := [.int p0, .int p1, .int p2, .int ((nw + p3) - 1)]) (rest := []) ⟨hx, hb, hml, hown, hts⟩ (c_X3_lays l D ci md 0 nw co ho ve la pr rg rp rm rc re ro rl cn tn tk sp ba p0 p1 p2 ((nw + p3) - 1) (kv_q7_n e hRz) H.size) (cwV 4 hts gX3_buy_X3_lays rfl rfl rfl (by decide +kernel) ⟨Nat.le_of_ble_eq_true rfl, Nat.le_of_ble_eq_true rfl⟩) (kv_preV hK hP hD (r := (RX3, TX3, 19)) (q0 := 0) (k := 4) rfl rfl rfl) rfl rfl hl.1 rfl (lv_room (Nat.le_of_ble_eq_true rfl)) dX3_buy_86 ⟨Nat.le_of_ble_eq_true rfl, Nat.le_of_ble_eq_true rfl⟩) hD hS hA (fun r_86 u_86 H locs hw_86 hP hD hS => ?_)
            obtain ⟨o0_86, o1_86, o2_86, o3_86, o4_86, o5_86⟩ := u_86
            have e := kv_q7_e e hw_86
            have hP : va_P D vwCl (kv_mw ci md 0 nw co ho ve la pr o0_86 o1_86 o2_86 o3_86 re o4_86 o5_86 cn tn tk sp ba) H := hP
            have hD : va_D A (kv_mw ci md 0 nw co ho ve la pr o0_86 o1_86 o2_86 o3_86 re o4_86 o5_86 cn tn tk sp ba) := hD
            rw [hQ]
            exact W.iret (v := r_86) hx hb hr (fun t ht hW => ⟨⟨r_86, (0, o0_86, o1_86, o2_86, o3_86, o4_86, o5_86), rfl, e, ⟨by rw [ht]; exact hP, by rw [hAe]; exact hD⟩⟩, hS.F ht⟩) hS.2.2 dX3_buy_89
          · have e := e.trans (if_pos c_62)
            refine lv_aload_n hx hb dX3_buy_65 rfl (lv_at hl 0 rfl) ?_
            refine lv_iconst (v := 3) hx hb dX3_buy_66 (by decide) ?_
            refine kv_calli (va_runV (As := [.int 3]) (rest := []) ⟨hx, hb, hml, hown, hts⟩ (c_X3_fails l D ci md 0 nw co ho ve la pr rg rp rm rc re ro rl cn tn tk sp ba 3 (kv_q2_n e hRz) H.size) (cwV 1 hts gX3_buy_X3_fails rfl rfl rfl (by decide +kernel) ⟨Nat.le_of_ble_eq_true rfl, Nat.le_of_ble_eq_true rfl⟩) (kv_preV hK hP hD (r := (RX3, TX3, 19)) (q0 := 0) (k := 4) rfl rfl rfl) rfl rfl hl.1 rfl (lv_room (Nat.le_of_ble_eq_true rfl)) dX3_buy_67 ⟨Nat.le_of_ble_eq_true rfl, Nat.le_of_ble_eq_true rfl⟩) hD hS hA (fun r_67 u_67 H locs hw_67 hP hD hS => ?_)
            have e := kv_q2_e e hw_67
            have hP : va_P D vwCl (kv_mw ci md u_67 nw co ho ve la pr rg rp rm rc re ro rl cn tn tk sp ba) H := hP
            have hD : va_D A (kv_mw ci md u_67 nw co ho ve la pr rg rp rm rc re ro rl cn tn tk sp ba) := hD
            refine lv_goto (tgt := 89) hx hb dX3_buy_70 (by decide) ?_
            rw [hQ]
            exact W.iret (v := r_67) hx hb hr (fun t ht hW => ⟨⟨r_67, (u_67, rg, rp, rm, rc, ro, rl), rfl, e, ⟨by rw [ht]; exact hP, by rw [hAe]; exact hD⟩⟩, hS.F ht⟩) hS.2.2 dX3_buy_89
        · have e := e.trans (if_pos c_47)
          exact hb_50 0 rg rp rm rc ro rl  _ _ _ hP hD hS (lv_sub hl [0] rfl) e
  · have e := e.trans (if_pos c_9)
    refine lv_aload_n hx hb dX3_buy_12 rfl (lv_at hl 0 rfl) ?_
    refine lv_iconst (v := 1) hx hb dX3_buy_13 (by decide) ?_
    refine kv_calli (va_runV (As := [.int 1]) (rest := []) ⟨hx, hb, hml, hown, hts⟩ (c_X3_fails l D ci md 0 nw co ho ve la pr rg rp rm rc re ro rl cn tn tk sp ba 1 (kv_q2_n e hRz) H.size) (cwV 1 hts gX3_buy_X3_fails rfl rfl rfl (by decide +kernel) ⟨Nat.le_of_ble_eq_true rfl, Nat.le_of_ble_eq_true rfl⟩) (kv_preV hK hP hD (r := (RX3, TX3, 19)) (q0 := 0) (k := 4) rfl rfl rfl) rfl rfl hl.1 rfl (lv_room (Nat.le_of_ble_eq_true rfl)) dX3_buy_14 ⟨Nat.le_of_ble_eq_true rfl, Nat.le_of_ble_eq_true rfl⟩) hD hS hA (fun r_14 u_14 H locs hw_14 hP hD hS => ?_)
    have e := kv_q2_e e hw_14
    have hP : va_P D vwCl (kv_mw ci md u_14 nw co ho ve la pr rg rp rm rc re ro rl cn tn tk sp ba) H := hP
    have hD : va_D A (kv_mw ci md u_14 nw co ho ve la pr rg rp rm rc re ro rl cn tn tk sp ba) := hD
    rw [hQ]
    exact W.iret (v := r_14) hx hb hr (fun t ht hW => ⟨⟨r_14, (u_14, rg, rp, rm, rc, ro, rl), rfl, e, ⟨by rw [ht]; exact hP, by rw [hAe]; exact hD⟩⟩, hS.F ht⟩) hS.2.2 dX3_buy_17

def pf_X3_upgrade_75 (la : Nat → Int32) (p0 : Int32) (p1 : Int32)   (th : Int32) (rg : Int32) (rp : Nat → Int32) (rm : Nat → Int32) (rc : Nat → Int32) (ro : Nat → Int32) (rl : Nat → Int32) : Option (Int32 × Int32 × Int32 × (Nat → Int32) × (Nat → Int32) × (Nat → Int32) × (Nat → Int32) × (Nat → Int32)) :=
  kv_q2 (pf_X3_fails 3 th) (fun r_77 u_77 => some (r_77, u_77, rg, rp, rm, rc, ro, rl))
def pf_X3_upgrade (la : Nat → Int32) (p0 : Int32) (p1 : Int32) (th : Int32) (rg : Int32) (rp : Nat → Int32) (rm : Nat → Int32) (rc : Nat → Int32) (ro : Nat → Int32) (rl : Nat → Int32) : Option (Int32 × Int32 × Int32 × (Nat → Int32) × (Nat → Int32) × (Nat → Int32) × (Nat → Int32) × (Nat → Int32)) :=
  kv_q1 (pf_X3_isRight rg p0) (fun r_7 => if r_7 = 0 then kv_q2 (pf_X3_fails 1 0) (fun r_15 u_15 => some (r_15, u_15, rg, rp, rm, rc, ro, rl)) else kv_q1 (pf_X3_in p1 1 500) (fun r_24 => if r_24 = 0 then kv_q2 (pf_X3_fails 2 0) (fun r_32 u_32 => some (r_32, u_32, rg, rp, rm, rc, ro, rl)) else kv_G p0 12 (kv_T (rc p0.toNatClampNeg) (fun y_41 => if y_41 < p1 then pf_X3_upgrade_75 la p0 p1 0 rg rp rm rc ro rl else kv_G p0 12 (kv_T (ro p0.toNatClampNeg) (fun y_51 => kv_G p0 12 (kv_T (rp p0.toNatClampNeg) (fun y_61 => kv_G y_61 4 (kv_T (la y_61.toNatClampNeg) (fun y_62 => if y_51 = y_62 then pf_X3_upgrade_75 la p0 p1 0 rg rp rm rc ro rl else if rg = 12 then pf_X3_upgrade_75 la p0 p1 0 rg rp rm rc ro rl else kv_G p0 12 (kv_T (rc p0.toNatClampNeg) (fun y_87 => kv_G p0 12 (kv_T (upd rc p0.toNatClampNeg (y_87 - p1)) (fun g_90 => kv_G p0 12 (kv_T (rp p0.toNatClampNeg) (fun y_97 => kv_G p0 12 (kv_T (rm p0.toNatClampNeg) (fun y_103 => kv_G p0 12 (kv_T (rl p0.toNatClampNeg) (fun y_110 => kv_q7 (pf_X3_lays la y_97 y_103 p1 y_110 rg rp rm g_90 ro rl) (fun r_111 o0_111 o1_111 o2_111 o3_111 o4_111 o5_111 => some (r_111, 0, o0_111, o1_111, o2_111, o3_111, o4_111, o5_111))))))))))))))))))))))
abbrev rmX3_upgrade : Room := { frames := 2, cells := 0, slots := 0, locals := 43 }
set_option maxHeartbeats 4000000 in
set_option maxRecDepth 100000 in
theorem c_X3_upgrade (l : Launch) (D : va_G) (ci md : Nat → Nat) (th : Int32) (nw : Int32) (co : Nat → Int32) (ho : Nat → Int32) (ve : Nat → Int32) (la : Nat → Int32) (pr : Nat → Int32) (rg : Int32) (rp : Nat → Int32) (rm : Nat → Int32) (rc : Nat → Int32) (re : Nat → Int32) (ro : Nat → Int32) (rl : Nat → Int32) (cn : Nat → Int32) (tn : Nat → Int32) (tk : Nat → Int32) (sp : Nat → Int32) (ba : Int32) (p0 : Int32) (p1 : Int32)  (hRn : pf_X3_upgrade la p0 p1 th rg rp rm rc ro rl ≠ none) (sz : Nat) : Met l yX3_upgrade wsX3_upgrade rmX3_upgrade (va_Pc [.ref (md 0), .int p0, .int p1] (kv_pre D ci (kv_mw ci md th nw co ho ve la pr rg rp rm rc re ro rl cn tn tk sp ba) sz)) (va_Qi (fun (r : Int32) (u : Int32 × Int32 × (Nat → Int32) × (Nat → Int32) × (Nat → Int32) × (Nat → Int32) × (Nat → Int32)) => pf_X3_upgrade la p0 p1 th rg rp rm rc ro rl = some (r, u)) (fun u t => kv_post D (kv_mw ci md th nw co ho ve la pr rg rp rm rc re ro rl cn tn tk sp ba) sz (kv_mw ci md u.1 nw co ho ve la pr u.2.1 u.2.2.1 u.2.2.2.1 u.2.2.2.2.1 re u.2.2.2.2.2.1 u.2.2.2.2.2.2 cn tn tk sp ba) t) (va_A (kv_mw ci md th nw co ho ve la pr rg rp rm rc re ro rl cn tn tk sp ba) sz)) 0 0 (va_A (kv_mw ci md th nw co ho ve la pr rg rp rm rc re ro rl cn tn tk sp ba) sz) := by
  refine Met.ofW (cc := cX3_upgrade) (maxL := 3) (ret := (some .int)) (by decide) rfl ?_
  intro p en s m args below meth c s₁ B hml hv
  obtain ⟨hv0, hsz, hP, hK, hD0⟩ := hv
  have hx := B.exec
  have hb := B.bytes
  have hr := B.returns
  have hts := atoms_spec (ws := wsX3_upgrade) B.pre
  have hown : s.vm.findClass RX3 = some m.cls := findClass_of_methodNamed B.named
  have hlocks := B.notSynchronized
  subst hsz
  have hD := hD0.self (sz := s.heap.size)
  generalize hAe : va_A (kv_mw ci md th nw co ho ve la pr rg rp rm rc re ro rl cn tn tk sp ba) s.heap.size = A at hD ⊢
  have hA : ∀ q : Nat, s.heap.size ≤ q → A q := fun q h => by rw [← hAe]; exact Or.inr h
  have hS : va_S A s.heap s.heap [] := va_S.rf
  have hP : va_P D vwCl (kv_mw ci md th nw co ho ve la pr rg rp rm rc re ro rl cn tn tk sp ba) s.heap := hP
  have hinRX3 : ∀ w ∈ u_ws RX3 TX3 19, w ∈ wsX3_upgrade := by decide +kernel
  generalize hRd : pf_X3_upgrade la p0 p1 th rg rp rm rc ro rl = Rz at hRn
  have hRz := hRn
  refine kv_Q (fun Q hQ => ?_)
  refine W.eq (show entryFrame m args 3 = _ from by rw [hv0, lg_entry_eq]) ?_
  have hl := lv_entry ([.ref (md 0), .int p0, .int p1]) (n := 3) (Nat.le_of_ble_eq_true rfl)
  generalize (lg_sl ([.ref (md 0), .int p0, .int p1]) ++ List.replicate (3 - (lg_sl ([.ref (md 0), .int p0, .int p1])).length) Slot.unset).toArray = ls at hl ⊢
  have hl : lv_has ls 3 [(0, .ref (md 0)), (1, .int p0), (2, .int p1)] := hl
  have e : Rz = pf_X3_upgrade la p0 p1 th rg rp rm rc ro rl := hRd.symm
  rw [pf_X3_upgrade] at e
  have hb_75 : ∀ (th : Int32) (rg : Int32) (rp : Nat → Int32) (rm : Nat → Int32) (rc : Nat → Int32) (ro : Nat → Int32) (rl : Nat → Int32) (H : Heap) (locs : List Loc) (ls : Array Slot), va_P D vwCl (kv_mw ci md th nw co ho ve la pr rg rp rm rc re ro rl cn tn tk sp ba) H → va_D A (kv_mw ci md th nw co ho ve la pr rg rp rm rc re ro rl cn tn tk sp ba) → va_S A s.heap H locs → lv_has ls 3 [(0, .ref (md 0))] → Rz = pf_X3_upgrade_75 la p0 p1  th rg rp rm rc ro rl → W p l en rmX3_upgrade s m args below meth c H locs 0 0 Q (F0 m 75 ls []) := by
    intro th rg rp rm rc ro rl H locs ls  hP hD hS hl e
    rw [pf_X3_upgrade_75] at e
    refine lv_aload_n hx hb dX3_upgrade_75 rfl (lv_at hl 0 rfl) ?_
    refine lv_iconst (v := 3) hx hb dX3_upgrade_76 (by decide) ?_
    refine kv_calli (va_runV (As := [.int 3]) (rest := []) ⟨hx, hb, hml, hown, hts⟩ (c_X3_fails l D ci md th nw co ho ve la pr rg rp rm rc re ro rl cn tn tk sp ba 3 (kv_q2_n e hRz) H.size) (cwV 1 hts gX3_upgrade_X3_fails rfl rfl rfl (by decide +kernel) ⟨Nat.le_of_ble_eq_true rfl, Nat.le_of_ble_eq_true rfl⟩) (kv_preV hK hP hD (r := (RX3, TX3, 19)) (q0 := 0) (k := 4) rfl rfl rfl) rfl rfl hl.1 rfl (lv_room (Nat.le_of_ble_eq_true rfl)) dX3_upgrade_77 ⟨Nat.le_of_ble_eq_true rfl, Nat.le_of_ble_eq_true rfl⟩) hD hS hA (fun r_77 u_77 H locs hw_77 hP hD hS => ?_)
    have e := kv_q2_e e hw_77
    have hP : va_P D vwCl (kv_mw ci md u_77 nw co ho ve la pr rg rp rm rc re ro rl cn tn tk sp ba) H := hP
    have hD : va_D A (kv_mw ci md u_77 nw co ho ve la pr rg rp rm rc re ro rl cn tn tk sp ba) := hD
    rw [hQ]
    exact W.iret (v := r_77) hx hb hr (fun t ht hW => ⟨⟨r_77, (u_77, rg, rp, rm, rc, ro, rl), rfl, e, ⟨by rw [ht]; exact hP, by rw [hAe]; exact hD⟩⟩, hS.F ht⟩) hS.2.2 dX3_upgrade_80
  refine lv_aload_n hx hb dX3_upgrade_0 rfl (lv_at hl 0 rfl) ?_
  refine lv_iconst (v := 0) hx hb dX3_upgrade_1 (by decide) ?_
  refine va_put (D := D) (ci := 4) (v := .int 0) (ty := .int) (C := RX3) (T := TX3) (N := 19) hx hb hts hinRX3 tyX3 tyX3_ok nmX3 hown hK hP hD hS 0 rfl rfl 0 (by decide) (hts (.fieldLink RX3 56 "LicenceKeeperModel" "thrown" "I") (by decide +kernel)) (fun _ h9 => h9) rfl (by decide +kernel) rfl rfl (Nat.le_of_ble_eq_true rfl) dX3_upgrade_2 (fun H locs hP hD hS => ?_)
  have hP : va_P D vwCl (kv_mw ci md 0 nw co ho ve la pr rg rp rm rc re ro rl cn tn tk sp ba) H := hP
  have hD : va_D A (kv_mw ci md 0 nw co ho ve la pr rg rp rm rc re ro rl cn tn tk sp ba) := hD
  refine lv_aload_n hx hb dX3_upgrade_5 rfl (lv_at hl 0 rfl) ?_
  refine lv_iload_n hx hb dX3_upgrade_6 rfl (lv_at hl 1 rfl) ?_
  refine kv_calli (va_runV (As := [.int p0]) (rest := []) ⟨hx, hb, hml, hown, hts⟩ (c_X3_isRight l D ci md 0 nw co ho ve la pr rg rp rm rc re ro rl cn tn tk sp ba p0 (kv_q1_n e hRz) H.size) (cwV 1 hts gX3_upgrade_X3_isRight rfl rfl rfl (by decide +kernel) ⟨Nat.le_of_ble_eq_true rfl, Nat.le_of_ble_eq_true rfl⟩) (kv_preV hK hP hD (r := (RX3, TX3, 19)) (q0 := 0) (k := 4) rfl rfl rfl) rfl rfl hl.1 rfl (lv_room (Nat.le_of_ble_eq_true rfl)) dX3_upgrade_7 ⟨Nat.le_of_ble_eq_true rfl, Nat.le_of_ble_eq_true rfl⟩) hD hS hA (fun r_7 u_7 H locs hw_7 hP hD hS => ?_)
  have e := kv_q1_e e hw_7
  refine lv_if_ne (tgt := 19) hx hb dX3_upgrade_10 (by decide) (fun c_10 => ?_) (fun c_10 => ?_)
  · have e := e.trans (if_neg c_10)
    refine lv_iload_n hx hb dX3_upgrade_19 rfl (lv_at hl 2 rfl) ?_
    refine lv_iconst (v := 1) hx hb dX3_upgrade_20 (by decide) ?_
    refine lv_sipush (v := 500) hx hb dX3_upgrade_21 (by decide) ?_
    refine kv_calli (va_runS (As := [.int p1, .int 1, .int 500]) (rest := []) ⟨hx, hb, hml, hown, hts⟩ (c_X3_in l D ci md 0 nw co ho ve la pr rg rp rm rc re ro rl cn tn tk sp ba p1 1 500 (kv_q1_n e hRz) H.size) (va_cwS 3 hts gX3_upgrade_X3_in rfl rfl rfl (by decide +kernel) ⟨Nat.le_of_ble_eq_true rfl, Nat.le_of_ble_eq_true rfl⟩) (kv_preS hK hP hD) rfl rfl hl.1 rfl (lv_room (Nat.le_of_ble_eq_true rfl)) dX3_upgrade_24 ⟨Nat.le_of_ble_eq_true rfl, Nat.le_of_ble_eq_true rfl⟩) hD hS hA (fun r_24 u_24 H locs hw_24 hP hD hS => ?_)
    have e := kv_q1_e e hw_24
    refine lv_if_ne (tgt := 36) hx hb dX3_upgrade_27 (by decide) (fun c_27 => ?_) (fun c_27 => ?_)
    · have e := e.trans (if_neg c_27)
      refine lv_aload_n hx hb dX3_upgrade_36 rfl (lv_at hl 0 rfl) ?_
      refine va_get (D := D) (ci := 4) (v := .ref (md 8)) (C := RX3) (T := TX3) (N := 19) hx hb hts hinRX3 hown hK hP 0 rfl rfl 10 (by decide) (hts (.fieldLink RX3 31 "LicenceKeeperModel" "count" "[I") (by decide +kernel)) (fun _ h9 => h9) rfl dX3_upgrade_37 ?_
      refine lv_iload_n hx hb dX3_upgrade_40 rfl (lv_at hl 1 rfl) ?_
      obtain ⟨hi_41, e⟩ := kv_G_e e hRz
      refine kv_iald hx hb hK hP 8 0 hi_41 dX3_upgrade_41 rfl rfl (fun y_41 ey_41 => ?_)
      have e := kv_T_e e ey_41
      refine lv_iload_n hx hb dX3_upgrade_42 rfl (lv_at hl 2 rfl) ?_
      refine lv_icmp_lt (tgt := 75) hx hb dX3_upgrade_43 (by decide) (fun c_43 => ?_) (fun c_43 => ?_)
      · have e := e.trans (if_pos c_43)
        exact hb_75 0 rg rp rm rc ro rl  _ _ _ hP hD hS (lv_sub hl [0] rfl) e
      · have e := e.trans (if_neg c_43)
        refine lv_aload_n hx hb dX3_upgrade_46 rfl (lv_at hl 0 rfl) ?_
        refine va_get (D := D) (ci := 4) (v := .ref (md 10)) (C := RX3) (T := TX3) (N := 19) hx hb hts hinRX3 hown hK hP 0 rfl rfl 12 (by decide) (hts (.fieldLink RX3 37 "LicenceKeeperModel" "of" "[I") (by decide +kernel)) (fun _ h9 => h9) rfl dX3_upgrade_47 ?_
        refine lv_iload_n hx hb dX3_upgrade_50 rfl (lv_at hl 1 rfl) ?_
        obtain ⟨hi_51, e⟩ := kv_G_e e hRz
        refine kv_iald hx hb hK hP 10 0 hi_51 dX3_upgrade_51 rfl rfl (fun y_51 ey_51 => ?_)
        have e := kv_T_e e ey_51
        refine lv_aload_n hx hb dX3_upgrade_52 rfl (lv_at hl 0 rfl) ?_
        refine va_get (D := D) (ci := 4) (v := .ref (md 4)) (C := RX3) (T := TX3) (N := 19) hx hb hts hinRX3 hown hK hP 0 rfl rfl 5 (by decide) (hts (.fieldLink RX3 19 "LicenceKeeperModel" "latest" "[I") (by decide +kernel)) (fun _ h9 => h9) rfl dX3_upgrade_53 ?_
        refine lv_aload_n hx hb dX3_upgrade_56 rfl (lv_at hl 0 rfl) ?_
        refine va_get (D := D) (ci := 4) (v := .ref (md 6)) (C := RX3) (T := TX3) (N := 19) hx hb hts hinRX3 hown hK hP 0 rfl rfl 8 (by decide) (hts (.fieldLink RX3 25 "LicenceKeeperModel" "product" "[I") (by decide +kernel)) (fun _ h9 => h9) rfl dX3_upgrade_57 ?_
        refine lv_iload_n hx hb dX3_upgrade_60 rfl (lv_at hl 1 rfl) ?_
        obtain ⟨hi_61, e⟩ := kv_G_e e hRz
        refine kv_iald hx hb hK hP 6 0 hi_61 dX3_upgrade_61 rfl rfl (fun y_61 ey_61 => ?_)
        have e := kv_T_e e ey_61
        obtain ⟨hi_62, e⟩ := kv_G_e e hRz
        refine kv_iald hx hb hK hP 4 0 hi_62 dX3_upgrade_62 rfl rfl (fun y_62 ey_62 => ?_)
        have e := kv_T_e e ey_62
        refine lv_icmp_eq (tgt := 75) hx hb dX3_upgrade_63 (by decide) (fun c_63 => ?_) (fun c_63 => ?_)
        · have e := e.trans (if_pos c_63)
          exact hb_75 0 rg rp rm rc ro rl  _ _ _ hP hD hS (lv_sub hl [0] rfl) e
        · have e := e.trans (if_neg c_63)
          refine lv_aload_n hx hb dX3_upgrade_66 rfl (lv_at hl 0 rfl) ?_
          refine va_get (D := D) (ci := 4) (v := .int rg) (C := RX3) (T := TX3) (N := 19) hx hb hts hinRX3 hown hK hP 0 rfl rfl 7 (by decide) (hts (.fieldLink RX3 64 "LicenceKeeperModel" "rights" "I") (by decide +kernel)) (fun _ h9 => h9) rfl dX3_upgrade_67 ?_
          refine lv_bipush (v := 12) hx hb dX3_upgrade_70 (by decide) ?_
          refine lv_icmp_ne (tgt := 81) hx hb dX3_upgrade_72 (by decide) (fun c_72 => ?_) (fun c_72 => ?_)
          · have e := e.trans (if_neg c_72)
            refine lv_aload_n hx hb dX3_upgrade_81 rfl (lv_at hl 0 rfl) ?_
            refine va_get (D := D) (ci := 4) (v := .ref (md 8)) (C := RX3) (T := TX3) (N := 19) hx hb hts hinRX3 hown hK hP 0 rfl rfl 10 (by decide) (hts (.fieldLink RX3 31 "LicenceKeeperModel" "count" "[I") (by decide +kernel)) (fun _ h9 => h9) rfl dX3_upgrade_82 ?_
            refine lv_iload_n hx hb dX3_upgrade_85 rfl (lv_at hl 1 rfl) ?_
            refine lv_dup2_11 hx hb dX3_upgrade_86 rfl rfl ?_
            obtain ⟨hi_87, e⟩ := kv_G_e e hRz
            refine kv_iald hx hb hK hP 8 0 hi_87 dX3_upgrade_87 rfl rfl (fun y_87 ey_87 => ?_)
            have e := kv_T_e e ey_87
            refine lv_iload_n hx hb dX3_upgrade_88 rfl (lv_at hl 2 rfl) ?_
            refine lv_isub hx hb dX3_upgrade_89 ?_
            obtain ⟨hi_90, e⟩ := kv_G_e e hRz
            refine kv_iast hx hb hK hP hD hS 8 0 (fun g_90 => (kv_mw ci md 0 nw co ho ve la pr rg rp rm g_90 re ro rl cn tn tk sp ba)) hi_90 dX3_upgrade_90 rfl rfl (fun _ => rfl) (fun g_90 H locs eg_90 hP hD hS => ?_)
            have e := kv_T_e e eg_90
            refine lv_aload_n hx hb dX3_upgrade_91 rfl (lv_at hl 0 rfl) ?_
            refine lv_aload_n hx hb dX3_upgrade_92 rfl (lv_at hl 0 rfl) ?_
            refine va_get (D := D) (ci := 4) (v := .ref (md 6)) (C := RX3) (T := TX3) (N := 19) hx hb hts hinRX3 hown hK hP 0 rfl rfl 8 (by decide) (hts (.fieldLink RX3 25 "LicenceKeeperModel" "product" "[I") (by decide +kernel)) (fun _ h9 => h9) rfl dX3_upgrade_93 ?_
            refine lv_iload_n hx hb dX3_upgrade_96 rfl (lv_at hl 1 rfl) ?_
            obtain ⟨hi_97, e⟩ := kv_G_e e hRz
            refine kv_iald hx hb hK hP 6 0 hi_97 dX3_upgrade_97 rfl rfl (fun y_97 ey_97 => ?_)
            have e := kv_T_e e ey_97
            refine lv_aload_n hx hb dX3_upgrade_98 rfl (lv_at hl 0 rfl) ?_
            refine va_get (D := D) (ci := 4) (v := .ref (md 7)) (C := RX3) (T := TX3) (N := 19) hx hb hts hinRX3 hown hK hP 0 rfl rfl 9 (by decide) (hts (.fieldLink RX3 28 "LicenceKeeperModel" "measure" "[I") (by decide +kernel)) (fun _ h9 => h9) rfl dX3_upgrade_99 ?_
            refine lv_iload_n hx hb dX3_upgrade_102 rfl (lv_at hl 1 rfl) ?_
            obtain ⟨hi_103, e⟩ := kv_G_e e hRz
            refine kv_iald hx hb hK hP 7 0 hi_103 dX3_upgrade_103 rfl rfl (fun y_103 ey_103 => ?_)
            have e := kv_T_e e ey_103
            refine lv_iload_n hx hb dX3_upgrade_104 rfl (lv_at hl 2 rfl) ?_
            refine lv_aload_n hx hb dX3_upgrade_105 rfl (lv_at hl 0 rfl) ?_
            refine va_get (D := D) (ci := 4) (v := .ref (md 11)) (C := RX3) (T := TX3) (N := 19) hx hb hts hinRX3 hown hK hP 0 rfl rfl 13 (by decide) (hts (.fieldLink RX3 40 "LicenceKeeperModel" "last" "[I") (by decide +kernel)) (fun _ h9 => h9) rfl dX3_upgrade_106 ?_
            refine lv_iload_n hx hb dX3_upgrade_109 rfl (lv_at hl 1 rfl) ?_
            obtain ⟨hi_110, e⟩ := kv_G_e e hRz
            refine kv_iald hx hb hK hP 11 0 hi_110 dX3_upgrade_110 rfl rfl (fun y_110 ey_110 => ?_)
            have e := kv_T_e e ey_110
            refine kv_calli (va_runV (As := [.int y_97, .int y_103, .int p1, .int y_110]) (rest := []) ⟨hx, hb, hml, hown, hts⟩ (c_X3_lays l D ci md 0 nw co ho ve la pr rg rp rm g_90 re ro rl cn tn tk sp ba y_97 y_103 p1 y_110 (kv_q7_n e hRz) H.size) (cwV 4 hts gX3_upgrade_X3_lays rfl rfl rfl (by decide +kernel) ⟨Nat.le_of_ble_eq_true rfl, Nat.le_of_ble_eq_true rfl⟩) (kv_preV hK hP hD (r := (RX3, TX3, 19)) (q0 := 0) (k := 4) rfl rfl rfl) rfl rfl hl.1 rfl (lv_room (Nat.le_of_ble_eq_true rfl)) dX3_upgrade_111 ⟨Nat.le_of_ble_eq_true rfl, Nat.le_of_ble_eq_true rfl⟩) hD hS hA (fun r_111 u_111 H locs hw_111 hP hD hS => ?_)
            obtain ⟨o0_111, o1_111, o2_111, o3_111, o4_111, o5_111⟩ := u_111
            have e := kv_q7_e e hw_111
            have hP : va_P D vwCl (kv_mw ci md 0 nw co ho ve la pr o0_111 o1_111 o2_111 o3_111 re o4_111 o5_111 cn tn tk sp ba) H := hP
            have hD : va_D A (kv_mw ci md 0 nw co ho ve la pr o0_111 o1_111 o2_111 o3_111 re o4_111 o5_111 cn tn tk sp ba) := hD
            rw [hQ]
            exact W.iret (v := r_111) hx hb hr (fun t ht hW => ⟨⟨r_111, (0, o0_111, o1_111, o2_111, o3_111, o4_111, o5_111), rfl, e, ⟨by rw [ht]; exact hP, by rw [hAe]; exact hD⟩⟩, hS.F ht⟩) hS.2.2 dX3_upgrade_114
          · have e := e.trans (if_pos c_72)
            exact hb_75 0 rg rp rm rc ro rl  _ _ _ hP hD hS (lv_sub hl [0] rfl) e
    · have e := e.trans (if_pos c_27)
      refine lv_aload_n hx hb dX3_upgrade_30 rfl (lv_at hl 0 rfl) ?_
      refine lv_iconst (v := 2) hx hb dX3_upgrade_31 (by decide) ?_
      refine kv_calli (va_runV (As := [.int 2]) (rest := []) ⟨hx, hb, hml, hown, hts⟩ (c_X3_fails l D ci md 0 nw co ho ve la pr rg rp rm rc re ro rl cn tn tk sp ba 2 (kv_q2_n e hRz) H.size) (cwV 1 hts gX3_upgrade_X3_fails rfl rfl rfl (by decide +kernel) ⟨Nat.le_of_ble_eq_true rfl, Nat.le_of_ble_eq_true rfl⟩) (kv_preV hK hP hD (r := (RX3, TX3, 19)) (q0 := 0) (k := 4) rfl rfl rfl) rfl rfl hl.1 rfl (lv_room (Nat.le_of_ble_eq_true rfl)) dX3_upgrade_32 ⟨Nat.le_of_ble_eq_true rfl, Nat.le_of_ble_eq_true rfl⟩) hD hS hA (fun r_32 u_32 H locs hw_32 hP hD hS => ?_)
      have e := kv_q2_e e hw_32
      have hP : va_P D vwCl (kv_mw ci md u_32 nw co ho ve la pr rg rp rm rc re ro rl cn tn tk sp ba) H := hP
      have hD : va_D A (kv_mw ci md u_32 nw co ho ve la pr rg rp rm rc re ro rl cn tn tk sp ba) := hD
      rw [hQ]
      exact W.iret (v := r_32) hx hb hr (fun t ht hW => ⟨⟨r_32, (u_32, rg, rp, rm, rc, ro, rl), rfl, e, ⟨by rw [ht]; exact hP, by rw [hAe]; exact hD⟩⟩, hS.F ht⟩) hS.2.2 dX3_upgrade_35
  · have e := e.trans (if_pos c_10)
    refine lv_aload_n hx hb dX3_upgrade_13 rfl (lv_at hl 0 rfl) ?_
    refine lv_iconst (v := 1) hx hb dX3_upgrade_14 (by decide) ?_
    refine kv_calli (va_runV (As := [.int 1]) (rest := []) ⟨hx, hb, hml, hown, hts⟩ (c_X3_fails l D ci md 0 nw co ho ve la pr rg rp rm rc re ro rl cn tn tk sp ba 1 (kv_q2_n e hRz) H.size) (cwV 1 hts gX3_upgrade_X3_fails rfl rfl rfl (by decide +kernel) ⟨Nat.le_of_ble_eq_true rfl, Nat.le_of_ble_eq_true rfl⟩) (kv_preV hK hP hD (r := (RX3, TX3, 19)) (q0 := 0) (k := 4) rfl rfl rfl) rfl rfl hl.1 rfl (lv_room (Nat.le_of_ble_eq_true rfl)) dX3_upgrade_15 ⟨Nat.le_of_ble_eq_true rfl, Nat.le_of_ble_eq_true rfl⟩) hD hS hA (fun r_15 u_15 H locs hw_15 hP hD hS => ?_)
    have e := kv_q2_e e hw_15
    have hP : va_P D vwCl (kv_mw ci md u_15 nw co ho ve la pr rg rp rm rc re ro rl cn tn tk sp ba) H := hP
    have hD : va_D A (kv_mw ci md u_15 nw co ho ve la pr rg rp rm rc re ro rl cn tn tk sp ba) := hD
    rw [hQ]
    exact W.iret (v := r_15) hx hb hr (fun t ht hW => ⟨⟨r_15, (u_15, rg, rp, rm, rc, ro, rl), rfl, e, ⟨by rw [ht]; exact hP, by rw [hAe]; exact hD⟩⟩, hS.F ht⟩) hS.2.2 dX3_upgrade_18

def pf_X3_lend_59 (rg : Int32) (p0 : Int32) (p1 : Int32)   (th : Int32) (rc : Nat → Int32) (re : Nat → Int32) : Option (Int32 × Int32 × (Nat → Int32) × (Nat → Int32)) :=
  kv_q2 (pf_X3_fails 3 th) (fun r_61 u_61 => some (r_61, u_61, rc, re))
def pf_X3_lend (rg : Int32) (p0 : Int32) (p1 : Int32) (th : Int32) (rc : Nat → Int32) (re : Nat → Int32) : Option (Int32 × Int32 × (Nat → Int32) × (Nat → Int32)) :=
  kv_q1 (pf_X3_isRight rg p0) (fun r_7 => if r_7 = 0 then kv_q2 (pf_X3_fails 1 0) (fun r_15 u_15 => some (r_15, u_15, rc, re)) else kv_q1 (pf_X3_in p1 (-500) 500) (fun r_26 => if r_26 = 0 then kv_q2 (pf_X3_fails 2 0) (fun r_34 u_34 => some (r_34, u_34, rc, re)) else kv_G p0 12 (kv_T (rc p0.toNatClampNeg) (fun y_43 => if y_43 < p1 then pf_X3_lend_59 rg p0 p1 0 rc re else kv_G p0 12 (kv_T (re p0.toNatClampNeg) (fun y_53 => if 0 ≤ (y_53 + p1) then kv_G p0 12 (kv_T (rc p0.toNatClampNeg) (fun y_71 => kv_G p0 12 (kv_T (upd rc p0.toNatClampNeg (y_71 - p1)) (fun g_74 => kv_G p0 12 (kv_T (re p0.toNatClampNeg) (fun y_81 => kv_G p0 12 (kv_T (upd re p0.toNatClampNeg (y_81 + p1)) (fun g_84 => kv_G p0 12 (kv_T (g_84 p0.toNatClampNeg) (fun y_90 => some (y_90, 0, g_74, g_84))))))))))) else pf_X3_lend_59 rg p0 p1 0 rc re))))))
abbrev rmX3_lend : Room := { frames := 2, cells := 0, slots := 0, locals := 43 }
set_option maxHeartbeats 4000000 in
set_option maxRecDepth 100000 in
theorem c_X3_lend (l : Launch) (D : va_G) (ci md : Nat → Nat) (th : Int32) (nw : Int32) (co : Nat → Int32) (ho : Nat → Int32) (ve : Nat → Int32) (la : Nat → Int32) (pr : Nat → Int32) (rg : Int32) (rp : Nat → Int32) (rm : Nat → Int32) (rc : Nat → Int32) (re : Nat → Int32) (ro : Nat → Int32) (rl : Nat → Int32) (cn : Nat → Int32) (tn : Nat → Int32) (tk : Nat → Int32) (sp : Nat → Int32) (ba : Int32) (p0 : Int32) (p1 : Int32)  (hRn : pf_X3_lend rg p0 p1 th rc re ≠ none) (sz : Nat) : Met l yX3_lend wsX3_lend rmX3_lend (va_Pc [.ref (md 0), .int p0, .int p1] (kv_pre D ci (kv_mw ci md th nw co ho ve la pr rg rp rm rc re ro rl cn tn tk sp ba) sz)) (va_Qi (fun (r : Int32) (u : Int32 × (Nat → Int32) × (Nat → Int32)) => pf_X3_lend rg p0 p1 th rc re = some (r, u)) (fun u t => kv_post D (kv_mw ci md th nw co ho ve la pr rg rp rm rc re ro rl cn tn tk sp ba) sz (kv_mw ci md u.1 nw co ho ve la pr rg rp rm u.2.1 u.2.2 ro rl cn tn tk sp ba) t) (va_A (kv_mw ci md th nw co ho ve la pr rg rp rm rc re ro rl cn tn tk sp ba) sz)) 0 0 (va_A (kv_mw ci md th nw co ho ve la pr rg rp rm rc re ro rl cn tn tk sp ba) sz) := by
  refine Met.ofW (cc := cX3_lend) (maxL := 3) (ret := (some .int)) (by decide) rfl ?_
  intro p en s m args below meth c s₁ B hml hv
  obtain ⟨hv0, hsz, hP, hK, hD0⟩ := hv
  have hx := B.exec
  have hb := B.bytes
  have hr := B.returns
  have hts := atoms_spec (ws := wsX3_lend) B.pre
  have hown : s.vm.findClass RX3 = some m.cls := findClass_of_methodNamed B.named
  have hlocks := B.notSynchronized
  subst hsz
  have hD := hD0.self (sz := s.heap.size)
  generalize hAe : va_A (kv_mw ci md th nw co ho ve la pr rg rp rm rc re ro rl cn tn tk sp ba) s.heap.size = A at hD ⊢
  have hA : ∀ q : Nat, s.heap.size ≤ q → A q := fun q h => by rw [← hAe]; exact Or.inr h
  have hS : va_S A s.heap s.heap [] := va_S.rf
  have hP : va_P D vwCl (kv_mw ci md th nw co ho ve la pr rg rp rm rc re ro rl cn tn tk sp ba) s.heap := hP
  have hinRX3 : ∀ w ∈ u_ws RX3 TX3 19, w ∈ wsX3_lend := by decide +kernel
  generalize hRd : pf_X3_lend rg p0 p1 th rc re = Rz at hRn
  have hRz := hRn
  refine kv_Q (fun Q hQ => ?_)
  refine W.eq (show entryFrame m args 3 = _ from by rw [hv0, lg_entry_eq]) ?_
  have hl := lv_entry ([.ref (md 0), .int p0, .int p1]) (n := 3) (Nat.le_of_ble_eq_true rfl)
  generalize (lg_sl ([.ref (md 0), .int p0, .int p1]) ++ List.replicate (3 - (lg_sl ([.ref (md 0), .int p0, .int p1])).length) Slot.unset).toArray = ls at hl ⊢
  have hl : lv_has ls 3 [(0, .ref (md 0)), (1, .int p0), (2, .int p1)] := hl
  have e : Rz = pf_X3_lend rg p0 p1 th rc re := hRd.symm
  rw [pf_X3_lend] at e
  have hb_59 : ∀ (th : Int32) (rc : Nat → Int32) (re : Nat → Int32) (H : Heap) (locs : List Loc) (ls : Array Slot), va_P D vwCl (kv_mw ci md th nw co ho ve la pr rg rp rm rc re ro rl cn tn tk sp ba) H → va_D A (kv_mw ci md th nw co ho ve la pr rg rp rm rc re ro rl cn tn tk sp ba) → va_S A s.heap H locs → lv_has ls 3 [(0, .ref (md 0))] → Rz = pf_X3_lend_59 rg p0 p1  th rc re → W p l en rmX3_lend s m args below meth c H locs 0 0 Q (F0 m 59 ls []) := by
    intro th rc re H locs ls  hP hD hS hl e
    rw [pf_X3_lend_59] at e
    refine lv_aload_n hx hb dX3_lend_59 rfl (lv_at hl 0 rfl) ?_
    refine lv_iconst (v := 3) hx hb dX3_lend_60 (by decide) ?_
    refine kv_calli (va_runV (As := [.int 3]) (rest := []) ⟨hx, hb, hml, hown, hts⟩ (c_X3_fails l D ci md th nw co ho ve la pr rg rp rm rc re ro rl cn tn tk sp ba 3 (kv_q2_n e hRz) H.size) (cwV 1 hts gX3_lend_X3_fails rfl rfl rfl (by decide +kernel) ⟨Nat.le_of_ble_eq_true rfl, Nat.le_of_ble_eq_true rfl⟩) (kv_preV hK hP hD (r := (RX3, TX3, 19)) (q0 := 0) (k := 4) rfl rfl rfl) rfl rfl hl.1 rfl (lv_room (Nat.le_of_ble_eq_true rfl)) dX3_lend_61 ⟨Nat.le_of_ble_eq_true rfl, Nat.le_of_ble_eq_true rfl⟩) hD hS hA (fun r_61 u_61 H locs hw_61 hP hD hS => ?_)
    have e := kv_q2_e e hw_61
    have hP : va_P D vwCl (kv_mw ci md u_61 nw co ho ve la pr rg rp rm rc re ro rl cn tn tk sp ba) H := hP
    have hD : va_D A (kv_mw ci md u_61 nw co ho ve la pr rg rp rm rc re ro rl cn tn tk sp ba) := hD
    rw [hQ]
    exact W.iret (v := r_61) hx hb hr (fun t ht hW => ⟨⟨r_61, (u_61, rc, re), rfl, e, ⟨by rw [ht]; exact hP, by rw [hAe]; exact hD⟩⟩, hS.F ht⟩) hS.2.2 dX3_lend_64
  refine lv_aload_n hx hb dX3_lend_0 rfl (lv_at hl 0 rfl) ?_
  refine lv_iconst (v := 0) hx hb dX3_lend_1 (by decide) ?_
  refine va_put (D := D) (ci := 4) (v := .int 0) (ty := .int) (C := RX3) (T := TX3) (N := 19) hx hb hts hinRX3 tyX3 tyX3_ok nmX3 hown hK hP hD hS 0 rfl rfl 0 (by decide) (hts (.fieldLink RX3 56 "LicenceKeeperModel" "thrown" "I") (by decide +kernel)) (fun _ h9 => h9) rfl (by decide +kernel) rfl rfl (Nat.le_of_ble_eq_true rfl) dX3_lend_2 (fun H locs hP hD hS => ?_)
  have hP : va_P D vwCl (kv_mw ci md 0 nw co ho ve la pr rg rp rm rc re ro rl cn tn tk sp ba) H := hP
  have hD : va_D A (kv_mw ci md 0 nw co ho ve la pr rg rp rm rc re ro rl cn tn tk sp ba) := hD
  refine lv_aload_n hx hb dX3_lend_5 rfl (lv_at hl 0 rfl) ?_
  refine lv_iload_n hx hb dX3_lend_6 rfl (lv_at hl 1 rfl) ?_
  refine kv_calli (va_runV (As := [.int p0]) (rest := []) ⟨hx, hb, hml, hown, hts⟩ (c_X3_isRight l D ci md 0 nw co ho ve la pr rg rp rm rc re ro rl cn tn tk sp ba p0 (kv_q1_n e hRz) H.size) (cwV 1 hts gX3_lend_X3_isRight rfl rfl rfl (by decide +kernel) ⟨Nat.le_of_ble_eq_true rfl, Nat.le_of_ble_eq_true rfl⟩) (kv_preV hK hP hD (r := (RX3, TX3, 19)) (q0 := 0) (k := 4) rfl rfl rfl) rfl rfl hl.1 rfl (lv_room (Nat.le_of_ble_eq_true rfl)) dX3_lend_7 ⟨Nat.le_of_ble_eq_true rfl, Nat.le_of_ble_eq_true rfl⟩) hD hS hA (fun r_7 u_7 H locs hw_7 hP hD hS => ?_)
  have e := kv_q1_e e hw_7
  refine lv_if_ne (tgt := 19) hx hb dX3_lend_10 (by decide) (fun c_10 => ?_) (fun c_10 => ?_)
  · have e := e.trans (if_neg c_10)
    refine lv_iload_n hx hb dX3_lend_19 rfl (lv_at hl 2 rfl) ?_
    refine lv_sipush (v := (-500)) hx hb dX3_lend_20 (by decide) ?_
    refine lv_sipush (v := 500) hx hb dX3_lend_23 (by decide) ?_
    refine kv_calli (va_runS (As := [.int p1, .int (-500), .int 500]) (rest := []) ⟨hx, hb, hml, hown, hts⟩ (c_X3_in l D ci md 0 nw co ho ve la pr rg rp rm rc re ro rl cn tn tk sp ba p1 (-500) 500 (kv_q1_n e hRz) H.size) (va_cwS 3 hts gX3_lend_X3_in rfl rfl rfl (by decide +kernel) ⟨Nat.le_of_ble_eq_true rfl, Nat.le_of_ble_eq_true rfl⟩) (kv_preS hK hP hD) rfl rfl hl.1 rfl (lv_room (Nat.le_of_ble_eq_true rfl)) dX3_lend_26 ⟨Nat.le_of_ble_eq_true rfl, Nat.le_of_ble_eq_true rfl⟩) hD hS hA (fun r_26 u_26 H locs hw_26 hP hD hS => ?_)
    have e := kv_q1_e e hw_26
    refine lv_if_ne (tgt := 38) hx hb dX3_lend_29 (by decide) (fun c_29 => ?_) (fun c_29 => ?_)
    · have e := e.trans (if_neg c_29)
      refine lv_aload_n hx hb dX3_lend_38 rfl (lv_at hl 0 rfl) ?_
      refine va_get (D := D) (ci := 4) (v := .ref (md 8)) (C := RX3) (T := TX3) (N := 19) hx hb hts hinRX3 hown hK hP 0 rfl rfl 10 (by decide) (hts (.fieldLink RX3 31 "LicenceKeeperModel" "count" "[I") (by decide +kernel)) (fun _ h9 => h9) rfl dX3_lend_39 ?_
      refine lv_iload_n hx hb dX3_lend_42 rfl (lv_at hl 1 rfl) ?_
      obtain ⟨hi_43, e⟩ := kv_G_e e hRz
      refine kv_iald hx hb hK hP 8 0 hi_43 dX3_lend_43 rfl rfl (fun y_43 ey_43 => ?_)
      have e := kv_T_e e ey_43
      refine lv_iload_n hx hb dX3_lend_44 rfl (lv_at hl 2 rfl) ?_
      refine lv_icmp_lt (tgt := 59) hx hb dX3_lend_45 (by decide) (fun c_45 => ?_) (fun c_45 => ?_)
      · have e := e.trans (if_pos c_45)
        exact hb_59 0 rc re  _ _ _ hP hD hS (lv_sub hl [0] rfl) e
      · have e := e.trans (if_neg c_45)
        refine lv_aload_n hx hb dX3_lend_48 rfl (lv_at hl 0 rfl) ?_
        refine va_get (D := D) (ci := 4) (v := .ref (md 9)) (C := RX3) (T := TX3) (N := 19) hx hb hts hinRX3 hown hK hP 0 rfl rfl 11 (by decide) (hts (.fieldLink RX3 34 "LicenceKeeperModel" "lent" "[I") (by decide +kernel)) (fun _ h9 => h9) rfl dX3_lend_49 ?_
        refine lv_iload_n hx hb dX3_lend_52 rfl (lv_at hl 1 rfl) ?_
        obtain ⟨hi_53, e⟩ := kv_G_e e hRz
        refine kv_iald hx hb hK hP 9 0 hi_53 dX3_lend_53 rfl rfl (fun y_53 ey_53 => ?_)
        have e := kv_T_e e ey_53
        refine lv_iload_n hx hb dX3_lend_54 rfl (lv_at hl 2 rfl) ?_
        refine lv_iadd hx hb dX3_lend_55 ?_
        refine lv_if_ge (tgt := 65) hx hb dX3_lend_56 (by decide) (fun c_56 => ?_) (fun c_56 => ?_)
        · have e := e.trans (if_pos c_56)
          refine lv_aload_n hx hb dX3_lend_65 rfl (lv_at hl 0 rfl) ?_
          refine va_get (D := D) (ci := 4) (v := .ref (md 8)) (C := RX3) (T := TX3) (N := 19) hx hb hts hinRX3 hown hK hP 0 rfl rfl 10 (by decide) (hts (.fieldLink RX3 31 "LicenceKeeperModel" "count" "[I") (by decide +kernel)) (fun _ h9 => h9) rfl dX3_lend_66 ?_
          refine lv_iload_n hx hb dX3_lend_69 rfl (lv_at hl 1 rfl) ?_
          refine lv_dup2_11 hx hb dX3_lend_70 rfl rfl ?_
          obtain ⟨hi_71, e⟩ := kv_G_e e hRz
          refine kv_iald hx hb hK hP 8 0 hi_71 dX3_lend_71 rfl rfl (fun y_71 ey_71 => ?_)
          have e := kv_T_e e ey_71
          refine lv_iload_n hx hb dX3_lend_72 rfl (lv_at hl 2 rfl) ?_
          refine lv_isub hx hb dX3_lend_73 ?_
          obtain ⟨hi_74, e⟩ := kv_G_e e hRz
          refine kv_iast hx hb hK hP hD hS 8 0 (fun g_74 => (kv_mw ci md 0 nw co ho ve la pr rg rp rm g_74 re ro rl cn tn tk sp ba)) hi_74 dX3_lend_74 rfl rfl (fun _ => rfl) (fun g_74 H locs eg_74 hP hD hS => ?_)
          have e := kv_T_e e eg_74
          refine lv_aload_n hx hb dX3_lend_75 rfl (lv_at hl 0 rfl) ?_
          refine va_get (D := D) (ci := 4) (v := .ref (md 9)) (C := RX3) (T := TX3) (N := 19) hx hb hts hinRX3 hown hK hP 0 rfl rfl 11 (by decide) (hts (.fieldLink RX3 34 "LicenceKeeperModel" "lent" "[I") (by decide +kernel)) (fun _ h9 => h9) rfl dX3_lend_76 ?_
          refine lv_iload_n hx hb dX3_lend_79 rfl (lv_at hl 1 rfl) ?_
          refine lv_dup2_11 hx hb dX3_lend_80 rfl rfl ?_
          obtain ⟨hi_81, e⟩ := kv_G_e e hRz
          refine kv_iald hx hb hK hP 9 0 hi_81 dX3_lend_81 rfl rfl (fun y_81 ey_81 => ?_)
          have e := kv_T_e e ey_81
          refine lv_iload_n hx hb dX3_lend_82 rfl (lv_at hl 2 rfl) ?_
          refine lv_iadd hx hb dX3_lend_83 ?_
          obtain ⟨hi_84, e⟩ := kv_G_e e hRz
          refine kv_iast hx hb hK hP hD hS 9 0 (fun g_84 => (kv_mw ci md 0 nw co ho ve la pr rg rp rm g_74 g_84 ro rl cn tn tk sp ba)) hi_84 dX3_lend_84 rfl rfl (fun _ => rfl) (fun g_84 H locs eg_84 hP hD hS => ?_)
          have e := kv_T_e e eg_84
          refine lv_aload_n hx hb dX3_lend_85 rfl (lv_at hl 0 rfl) ?_
          refine va_get (D := D) (ci := 4) (v := .ref (md 9)) (C := RX3) (T := TX3) (N := 19) hx hb hts hinRX3 hown hK hP 0 rfl rfl 11 (by decide) (hts (.fieldLink RX3 34 "LicenceKeeperModel" "lent" "[I") (by decide +kernel)) (fun _ h9 => h9) rfl dX3_lend_86 ?_
          refine lv_iload_n hx hb dX3_lend_89 rfl (lv_at hl 1 rfl) ?_
          obtain ⟨hi_90, e⟩ := kv_G_e e hRz
          refine kv_iald hx hb hK hP 9 0 hi_90 dX3_lend_90 rfl rfl (fun y_90 ey_90 => ?_)
          have e := kv_T_e e ey_90
          rw [hQ]
          exact W.iret (v := y_90) hx hb hr (fun t ht hW => ⟨⟨y_90, (0, g_74, g_84), rfl, e, ⟨by rw [ht]; exact hP, by rw [hAe]; exact hD⟩⟩, hS.F ht⟩) hS.2.2 dX3_lend_91
        · have e := e.trans (if_neg c_56)
          exact hb_59 0 rc re  _ _ _ hP hD hS (lv_sub hl [0] rfl) e
    · have e := e.trans (if_pos c_29)
      refine lv_aload_n hx hb dX3_lend_32 rfl (lv_at hl 0 rfl) ?_
      refine lv_iconst (v := 2) hx hb dX3_lend_33 (by decide) ?_
      refine kv_calli (va_runV (As := [.int 2]) (rest := []) ⟨hx, hb, hml, hown, hts⟩ (c_X3_fails l D ci md 0 nw co ho ve la pr rg rp rm rc re ro rl cn tn tk sp ba 2 (kv_q2_n e hRz) H.size) (cwV 1 hts gX3_lend_X3_fails rfl rfl rfl (by decide +kernel) ⟨Nat.le_of_ble_eq_true rfl, Nat.le_of_ble_eq_true rfl⟩) (kv_preV hK hP hD (r := (RX3, TX3, 19)) (q0 := 0) (k := 4) rfl rfl rfl) rfl rfl hl.1 rfl (lv_room (Nat.le_of_ble_eq_true rfl)) dX3_lend_34 ⟨Nat.le_of_ble_eq_true rfl, Nat.le_of_ble_eq_true rfl⟩) hD hS hA (fun r_34 u_34 H locs hw_34 hP hD hS => ?_)
      have e := kv_q2_e e hw_34
      have hP : va_P D vwCl (kv_mw ci md u_34 nw co ho ve la pr rg rp rm rc re ro rl cn tn tk sp ba) H := hP
      have hD : va_D A (kv_mw ci md u_34 nw co ho ve la pr rg rp rm rc re ro rl cn tn tk sp ba) := hD
      rw [hQ]
      exact W.iret (v := r_34) hx hb hr (fun t ht hW => ⟨⟨r_34, (u_34, rc, re), rfl, e, ⟨by rw [ht]; exact hP, by rw [hAe]; exact hD⟩⟩, hS.F ht⟩) hS.2.2 dX3_lend_37
  · have e := e.trans (if_pos c_10)
    refine lv_aload_n hx hb dX3_lend_13 rfl (lv_at hl 0 rfl) ?_
    refine lv_iconst (v := 1) hx hb dX3_lend_14 (by decide) ?_
    refine kv_calli (va_runV (As := [.int 1]) (rest := []) ⟨hx, hb, hml, hown, hts⟩ (c_X3_fails l D ci md 0 nw co ho ve la pr rg rp rm rc re ro rl cn tn tk sp ba 1 (kv_q2_n e hRz) H.size) (cwV 1 hts gX3_lend_X3_fails rfl rfl rfl (by decide +kernel) ⟨Nat.le_of_ble_eq_true rfl, Nat.le_of_ble_eq_true rfl⟩) (kv_preV hK hP hD (r := (RX3, TX3, 19)) (q0 := 0) (k := 4) rfl rfl rfl) rfl rfl hl.1 rfl (lv_room (Nat.le_of_ble_eq_true rfl)) dX3_lend_15 ⟨Nat.le_of_ble_eq_true rfl, Nat.le_of_ble_eq_true rfl⟩) hD hS hA (fun r_15 u_15 H locs hw_15 hP hD hS => ?_)
    have e := kv_q2_e e hw_15
    have hP : va_P D vwCl (kv_mw ci md u_15 nw co ho ve la pr rg rp rm rc re ro rl cn tn tk sp ba) H := hP
    have hD : va_D A (kv_mw ci md u_15 nw co ho ve la pr rg rp rm rc re ro rl cn tn tk sp ba) := hD
    rw [hQ]
    exact W.iret (v := r_15) hx hb hr (fun t ht hW => ⟨⟨r_15, (u_15, rc, re), rfl, e, ⟨by rw [ht]; exact hP, by rw [hAe]; exact hD⟩⟩, hS.F ht⟩) hS.2.2 dX3_lend_18

def pf_X3_pass (p0 : Int32) (th : Int32) (nw : Int32) : Option (Int32 × Int32 × Int32) :=
  kv_q1 (pf_X3_in p0 1 400) (fun r_10 => if r_10 = 0 then kv_q2 (pf_X3_fails 1 0) (fun r_18 u_18 => some (r_18, u_18, nw)) else kv_T (nw + p0) (fun y_29 => some (y_29, 0, y_29)))
abbrev rmX3_pass : Room := { frames := 1, cells := 0, slots := 0, locals := 22 }
set_option maxHeartbeats 4000000 in
set_option maxRecDepth 100000 in
theorem c_X3_pass (l : Launch) (D : va_G) (ci md : Nat → Nat) (th : Int32) (nw : Int32) (co : Nat → Int32) (ho : Nat → Int32) (ve : Nat → Int32) (la : Nat → Int32) (pr : Nat → Int32) (rg : Int32) (rp : Nat → Int32) (rm : Nat → Int32) (rc : Nat → Int32) (re : Nat → Int32) (ro : Nat → Int32) (rl : Nat → Int32) (cn : Nat → Int32) (tn : Nat → Int32) (tk : Nat → Int32) (sp : Nat → Int32) (ba : Int32) (p0 : Int32)  (hRn : pf_X3_pass p0 th nw ≠ none) (sz : Nat) : Met l yX3_pass wsX3_pass rmX3_pass (va_Pc [.ref (md 0), .int p0] (kv_pre D ci (kv_mw ci md th nw co ho ve la pr rg rp rm rc re ro rl cn tn tk sp ba) sz)) (va_Qi (fun (r : Int32) (u : Int32 × Int32) => pf_X3_pass p0 th nw = some (r, u)) (fun u t => kv_post D (kv_mw ci md th nw co ho ve la pr rg rp rm rc re ro rl cn tn tk sp ba) sz (kv_mw ci md u.1 u.2 co ho ve la pr rg rp rm rc re ro rl cn tn tk sp ba) t) (va_A (kv_mw ci md th nw co ho ve la pr rg rp rm rc re ro rl cn tn tk sp ba) sz)) 0 0 (va_A (kv_mw ci md th nw co ho ve la pr rg rp rm rc re ro rl cn tn tk sp ba) sz) := by
  refine Met.ofW (cc := cX3_pass) (maxL := 2) (ret := (some .int)) (by decide) rfl ?_
  intro p en s m args below meth c s₁ B hml hv
  obtain ⟨hv0, hsz, hP, hK, hD0⟩ := hv
  have hx := B.exec
  have hb := B.bytes
  have hr := B.returns
  have hts := atoms_spec (ws := wsX3_pass) B.pre
  have hown : s.vm.findClass RX3 = some m.cls := findClass_of_methodNamed B.named
  have hlocks := B.notSynchronized
  subst hsz
  have hD := hD0.self (sz := s.heap.size)
  generalize hAe : va_A (kv_mw ci md th nw co ho ve la pr rg rp rm rc re ro rl cn tn tk sp ba) s.heap.size = A at hD ⊢
  have hA : ∀ q : Nat, s.heap.size ≤ q → A q := fun q h => by rw [← hAe]; exact Or.inr h
  have hS : va_S A s.heap s.heap [] := va_S.rf
  have hP : va_P D vwCl (kv_mw ci md th nw co ho ve la pr rg rp rm rc re ro rl cn tn tk sp ba) s.heap := hP
  have hinRX3 : ∀ w ∈ u_ws RX3 TX3 19, w ∈ wsX3_pass := by decide +kernel
  generalize hRd : pf_X3_pass p0 th nw = Rz at hRn
  have hRz := hRn
  refine kv_Q (fun Q hQ => ?_)
  refine W.eq (show entryFrame m args 2 = _ from by rw [hv0, lg_entry_eq]) ?_
  have hl := lv_entry ([.ref (md 0), .int p0]) (n := 2) (Nat.le_of_ble_eq_true rfl)
  generalize (lg_sl ([.ref (md 0), .int p0]) ++ List.replicate (2 - (lg_sl ([.ref (md 0), .int p0])).length) Slot.unset).toArray = ls at hl ⊢
  have hl : lv_has ls 2 [(0, .ref (md 0)), (1, .int p0)] := hl
  have e : Rz = pf_X3_pass p0 th nw := hRd.symm
  rw [pf_X3_pass] at e
  refine lv_aload_n hx hb dX3_pass_0 rfl (lv_at hl 0 rfl) ?_
  refine lv_iconst (v := 0) hx hb dX3_pass_1 (by decide) ?_
  refine va_put (D := D) (ci := 4) (v := .int 0) (ty := .int) (C := RX3) (T := TX3) (N := 19) hx hb hts hinRX3 tyX3 tyX3_ok nmX3 hown hK hP hD hS 0 rfl rfl 0 (by decide) (hts (.fieldLink RX3 56 "LicenceKeeperModel" "thrown" "I") (by decide +kernel)) (fun _ h9 => h9) rfl (by decide +kernel) rfl rfl (Nat.le_of_ble_eq_true rfl) dX3_pass_2 (fun H locs hP hD hS => ?_)
  have hP : va_P D vwCl (kv_mw ci md 0 nw co ho ve la pr rg rp rm rc re ro rl cn tn tk sp ba) H := hP
  have hD : va_D A (kv_mw ci md 0 nw co ho ve la pr rg rp rm rc re ro rl cn tn tk sp ba) := hD
  refine lv_iload_n hx hb dX3_pass_5 rfl (lv_at hl 1 rfl) ?_
  refine lv_iconst (v := 1) hx hb dX3_pass_6 (by decide) ?_
  refine lv_sipush (v := 400) hx hb dX3_pass_7 (by decide) ?_
  refine kv_calli (va_runS (As := [.int p0, .int 1, .int 400]) (rest := []) ⟨hx, hb, hml, hown, hts⟩ (c_X3_in l D ci md 0 nw co ho ve la pr rg rp rm rc re ro rl cn tn tk sp ba p0 1 400 (kv_q1_n e hRz) H.size) (va_cwS 3 hts gX3_pass_X3_in rfl rfl rfl (by decide +kernel) ⟨Nat.le_of_ble_eq_true rfl, Nat.le_of_ble_eq_true rfl⟩) (kv_preS hK hP hD) rfl rfl hl.1 rfl (lv_room (Nat.le_of_ble_eq_true rfl)) dX3_pass_10 ⟨Nat.le_of_ble_eq_true rfl, Nat.le_of_ble_eq_true rfl⟩) hD hS hA (fun r_10 u_10 H locs hw_10 hP hD hS => ?_)
  have e := kv_q1_e e hw_10
  refine lv_if_ne (tgt := 22) hx hb dX3_pass_13 (by decide) (fun c_13 => ?_) (fun c_13 => ?_)
  · have e := e.trans (if_neg c_13)
    refine lv_aload_n hx hb dX3_pass_22 rfl (lv_at hl 0 rfl) ?_
    refine lv_dup hx hb dX3_pass_23 rfl ?_
    refine va_get (D := D) (ci := 4) (v := .int nw) (C := RX3) (T := TX3) (N := 19) hx hb hts hinRX3 hown hK hP 0 rfl rfl 1 (by decide) (hts (.fieldLink RX3 85 "LicenceKeeperModel" "now" "I") (by decide +kernel)) (fun _ h9 => h9) rfl dX3_pass_24 ?_
    refine lv_iload_n hx hb dX3_pass_27 rfl (lv_at hl 1 rfl) ?_
    refine lv_iadd hx hb dX3_pass_28 ?_
    refine lv_topi (fun y_29 ey_29 => ?_)
    have e := kv_T_e e ey_29
    refine va_put (D := D) (ci := 4) (v := .int y_29) (ty := .int) (C := RX3) (T := TX3) (N := 19) hx hb hts hinRX3 tyX3 tyX3_ok nmX3 hown hK hP hD hS 0 rfl rfl 1 (by decide) (hts (.fieldLink RX3 85 "LicenceKeeperModel" "now" "I") (by decide +kernel)) (fun _ h9 => h9) rfl (by decide +kernel) rfl rfl (Nat.le_of_ble_eq_true rfl) dX3_pass_29 (fun H locs hP hD hS => ?_)
    have hP : va_P D vwCl (kv_mw ci md 0 y_29 co ho ve la pr rg rp rm rc re ro rl cn tn tk sp ba) H := hP
    have hD : va_D A (kv_mw ci md 0 y_29 co ho ve la pr rg rp rm rc re ro rl cn tn tk sp ba) := hD
    refine lv_aload_n hx hb dX3_pass_32 rfl (lv_at hl 0 rfl) ?_
    refine va_get (D := D) (ci := 4) (v := .int y_29) (C := RX3) (T := TX3) (N := 19) hx hb hts hinRX3 hown hK hP 0 rfl rfl 1 (by decide) (hts (.fieldLink RX3 85 "LicenceKeeperModel" "now" "I") (by decide +kernel)) (fun _ h9 => h9) rfl dX3_pass_33 ?_
    rw [hQ]
    exact W.iret (v := y_29) hx hb hr (fun t ht hW => ⟨⟨y_29, (0, y_29), rfl, e, ⟨by rw [ht]; exact hP, by rw [hAe]; exact hD⟩⟩, hS.F ht⟩) hS.2.2 dX3_pass_36
  · have e := e.trans (if_pos c_13)
    refine lv_aload_n hx hb dX3_pass_16 rfl (lv_at hl 0 rfl) ?_
    refine lv_iconst (v := 1) hx hb dX3_pass_17 (by decide) ?_
    refine kv_calli (va_runV (As := [.int 1]) (rest := []) ⟨hx, hb, hml, hown, hts⟩ (c_X3_fails l D ci md 0 nw co ho ve la pr rg rp rm rc re ro rl cn tn tk sp ba 1 (kv_q2_n e hRz) H.size) (cwV 1 hts gX3_pass_X3_fails rfl rfl rfl (by decide +kernel) ⟨Nat.le_of_ble_eq_true rfl, Nat.le_of_ble_eq_true rfl⟩) (kv_preV hK hP hD (r := (RX3, TX3, 19)) (q0 := 0) (k := 4) rfl rfl rfl) rfl rfl hl.1 rfl (lv_room (Nat.le_of_ble_eq_true rfl)) dX3_pass_18 ⟨Nat.le_of_ble_eq_true rfl, Nat.le_of_ble_eq_true rfl⟩) hD hS hA (fun r_18 u_18 H locs hw_18 hP hD hS => ?_)
    have e := kv_q2_e e hw_18
    have hP : va_P D vwCl (kv_mw ci md u_18 nw co ho ve la pr rg rp rm rc re ro rl cn tn tk sp ba) H := hP
    have hD : va_D A (kv_mw ci md u_18 nw co ho ve la pr rg rp rm rc re ro rl cn tn tk sp ba) := hD
    rw [hQ]
    exact W.iret (v := r_18) hx hb hr (fun t ht hW => ⟨⟨r_18, (u_18, nw), rfl, e, ⟨by rw [ht]; exact hP, by rw [hAe]; exact hD⟩⟩, hS.F ht⟩) hS.2.2 dX3_pass_21

def pf_X3_today (nw : Int32) (th : Int32) : Option (Int32 × Int32) :=
  some (nw, 0)
abbrev rmX3_today : Room := { frames := 0, cells := 0, slots := 0, locals := 0 }
set_option maxHeartbeats 4000000 in
set_option maxRecDepth 100000 in
theorem c_X3_today (l : Launch) (D : va_G) (ci md : Nat → Nat) (th : Int32) (nw : Int32) (co : Nat → Int32) (ho : Nat → Int32) (ve : Nat → Int32) (la : Nat → Int32) (pr : Nat → Int32) (rg : Int32) (rp : Nat → Int32) (rm : Nat → Int32) (rc : Nat → Int32) (re : Nat → Int32) (ro : Nat → Int32) (rl : Nat → Int32) (cn : Nat → Int32) (tn : Nat → Int32) (tk : Nat → Int32) (sp : Nat → Int32) (ba : Int32)   (hRn : pf_X3_today nw th ≠ none) (sz : Nat) : Met l yX3_today wsX3_today rmX3_today (va_Pc [.ref (md 0)] (kv_pre D ci (kv_mw ci md th nw co ho ve la pr rg rp rm rc re ro rl cn tn tk sp ba) sz)) (va_Qi (fun (r : Int32) (u : Int32) => pf_X3_today nw th = some (r, u)) (fun u t => kv_post D (kv_mw ci md th nw co ho ve la pr rg rp rm rc re ro rl cn tn tk sp ba) sz (kv_mw ci md u nw co ho ve la pr rg rp rm rc re ro rl cn tn tk sp ba) t) (va_A (kv_mw ci md th nw co ho ve la pr rg rp rm rc re ro rl cn tn tk sp ba) sz)) 0 0 (va_A (kv_mw ci md th nw co ho ve la pr rg rp rm rc re ro rl cn tn tk sp ba) sz) := by
  refine Met.ofW (cc := cX3_today) (maxL := 1) (ret := (some .int)) (by decide) rfl ?_
  intro p en s m args below meth c s₁ B hml hv
  obtain ⟨hv0, hsz, hP, hK, hD0⟩ := hv
  have hx := B.exec
  have hb := B.bytes
  have hr := B.returns
  have hts := atoms_spec (ws := wsX3_today) B.pre
  have hown : s.vm.findClass RX3 = some m.cls := findClass_of_methodNamed B.named
  have hlocks := B.notSynchronized
  subst hsz
  have hD := hD0.self (sz := s.heap.size)
  generalize hAe : va_A (kv_mw ci md th nw co ho ve la pr rg rp rm rc re ro rl cn tn tk sp ba) s.heap.size = A at hD ⊢
  have hA : ∀ q : Nat, s.heap.size ≤ q → A q := fun q h => by rw [← hAe]; exact Or.inr h
  have hS : va_S A s.heap s.heap [] := va_S.rf
  have hP : va_P D vwCl (kv_mw ci md th nw co ho ve la pr rg rp rm rc re ro rl cn tn tk sp ba) s.heap := hP
  have hinRX3 : ∀ w ∈ u_ws RX3 TX3 19, w ∈ wsX3_today := by decide +kernel
  generalize hRd : pf_X3_today nw th = Rz at hRn
  have hRz := hRn
  refine kv_Q (fun Q hQ => ?_)
  refine W.eq (show entryFrame m args 1 = _ from by rw [hv0, lg_entry_eq]) ?_
  have hl := lv_entry ([.ref (md 0)]) (n := 1) (Nat.le_of_ble_eq_true rfl)
  generalize (lg_sl ([.ref (md 0)]) ++ List.replicate (1 - (lg_sl ([.ref (md 0)])).length) Slot.unset).toArray = ls at hl ⊢
  have hl : lv_has ls 1 [(0, .ref (md 0))] := hl
  have e : Rz = pf_X3_today nw th := hRd.symm
  rw [pf_X3_today] at e
  refine lv_aload_n hx hb dX3_today_0 rfl (lv_at hl 0 rfl) ?_
  refine lv_iconst (v := 0) hx hb dX3_today_1 (by decide) ?_
  refine va_put (D := D) (ci := 4) (v := .int 0) (ty := .int) (C := RX3) (T := TX3) (N := 19) hx hb hts hinRX3 tyX3 tyX3_ok nmX3 hown hK hP hD hS 0 rfl rfl 0 (by decide) (hts (.fieldLink RX3 56 "LicenceKeeperModel" "thrown" "I") (by decide +kernel)) (fun _ h9 => h9) rfl (by decide +kernel) rfl rfl (Nat.le_of_ble_eq_true rfl) dX3_today_2 (fun H locs hP hD hS => ?_)
  have hP : va_P D vwCl (kv_mw ci md 0 nw co ho ve la pr rg rp rm rc re ro rl cn tn tk sp ba) H := hP
  have hD : va_D A (kv_mw ci md 0 nw co ho ve la pr rg rp rm rc re ro rl cn tn tk sp ba) := hD
  refine lv_aload_n hx hb dX3_today_5 rfl (lv_at hl 0 rfl) ?_
  refine va_get (D := D) (ci := 4) (v := .int nw) (C := RX3) (T := TX3) (N := 19) hx hb hts hinRX3 hown hK hP 0 rfl rfl 1 (by decide) (hts (.fieldLink RX3 85 "LicenceKeeperModel" "now" "I") (by decide +kernel)) (fun _ h9 => h9) rfl dX3_today_6 ?_
  rw [hQ]
  exact W.iret (v := nw) hx hb hr (fun t ht hW => ⟨⟨nw, (0), rfl, e, ⟨by rw [ht]; exact hP, by rw [hAe]; exact hD⟩⟩, hS.F ht⟩) hS.2.2 dX3_today_9

def pf_X3_rights (rg : Int32) (th : Int32) : Option (Int32 × Int32) :=
  some (rg, 0)
abbrev rmX3_rights : Room := { frames := 0, cells := 0, slots := 0, locals := 0 }
set_option maxHeartbeats 4000000 in
set_option maxRecDepth 100000 in
theorem c_X3_rights (l : Launch) (D : va_G) (ci md : Nat → Nat) (th : Int32) (nw : Int32) (co : Nat → Int32) (ho : Nat → Int32) (ve : Nat → Int32) (la : Nat → Int32) (pr : Nat → Int32) (rg : Int32) (rp : Nat → Int32) (rm : Nat → Int32) (rc : Nat → Int32) (re : Nat → Int32) (ro : Nat → Int32) (rl : Nat → Int32) (cn : Nat → Int32) (tn : Nat → Int32) (tk : Nat → Int32) (sp : Nat → Int32) (ba : Int32)   (hRn : pf_X3_rights rg th ≠ none) (sz : Nat) : Met l yX3_rights wsX3_rights rmX3_rights (va_Pc [.ref (md 0)] (kv_pre D ci (kv_mw ci md th nw co ho ve la pr rg rp rm rc re ro rl cn tn tk sp ba) sz)) (va_Qi (fun (r : Int32) (u : Int32) => pf_X3_rights rg th = some (r, u)) (fun u t => kv_post D (kv_mw ci md th nw co ho ve la pr rg rp rm rc re ro rl cn tn tk sp ba) sz (kv_mw ci md u nw co ho ve la pr rg rp rm rc re ro rl cn tn tk sp ba) t) (va_A (kv_mw ci md th nw co ho ve la pr rg rp rm rc re ro rl cn tn tk sp ba) sz)) 0 0 (va_A (kv_mw ci md th nw co ho ve la pr rg rp rm rc re ro rl cn tn tk sp ba) sz) := by
  refine Met.ofW (cc := cX3_rights) (maxL := 1) (ret := (some .int)) (by decide) rfl ?_
  intro p en s m args below meth c s₁ B hml hv
  obtain ⟨hv0, hsz, hP, hK, hD0⟩ := hv
  have hx := B.exec
  have hb := B.bytes
  have hr := B.returns
  have hts := atoms_spec (ws := wsX3_rights) B.pre
  have hown : s.vm.findClass RX3 = some m.cls := findClass_of_methodNamed B.named
  have hlocks := B.notSynchronized
  subst hsz
  have hD := hD0.self (sz := s.heap.size)
  generalize hAe : va_A (kv_mw ci md th nw co ho ve la pr rg rp rm rc re ro rl cn tn tk sp ba) s.heap.size = A at hD ⊢
  have hA : ∀ q : Nat, s.heap.size ≤ q → A q := fun q h => by rw [← hAe]; exact Or.inr h
  have hS : va_S A s.heap s.heap [] := va_S.rf
  have hP : va_P D vwCl (kv_mw ci md th nw co ho ve la pr rg rp rm rc re ro rl cn tn tk sp ba) s.heap := hP
  have hinRX3 : ∀ w ∈ u_ws RX3 TX3 19, w ∈ wsX3_rights := by decide +kernel
  generalize hRd : pf_X3_rights rg th = Rz at hRn
  have hRz := hRn
  refine kv_Q (fun Q hQ => ?_)
  refine W.eq (show entryFrame m args 1 = _ from by rw [hv0, lg_entry_eq]) ?_
  have hl := lv_entry ([.ref (md 0)]) (n := 1) (Nat.le_of_ble_eq_true rfl)
  generalize (lg_sl ([.ref (md 0)]) ++ List.replicate (1 - (lg_sl ([.ref (md 0)])).length) Slot.unset).toArray = ls at hl ⊢
  have hl : lv_has ls 1 [(0, .ref (md 0))] := hl
  have e : Rz = pf_X3_rights rg th := hRd.symm
  rw [pf_X3_rights] at e
  refine lv_aload_n hx hb dX3_rights_0 rfl (lv_at hl 0 rfl) ?_
  refine lv_iconst (v := 0) hx hb dX3_rights_1 (by decide) ?_
  refine va_put (D := D) (ci := 4) (v := .int 0) (ty := .int) (C := RX3) (T := TX3) (N := 19) hx hb hts hinRX3 tyX3 tyX3_ok nmX3 hown hK hP hD hS 0 rfl rfl 0 (by decide) (hts (.fieldLink RX3 56 "LicenceKeeperModel" "thrown" "I") (by decide +kernel)) (fun _ h9 => h9) rfl (by decide +kernel) rfl rfl (Nat.le_of_ble_eq_true rfl) dX3_rights_2 (fun H locs hP hD hS => ?_)
  have hP : va_P D vwCl (kv_mw ci md 0 nw co ho ve la pr rg rp rm rc re ro rl cn tn tk sp ba) H := hP
  have hD : va_D A (kv_mw ci md 0 nw co ho ve la pr rg rp rm rc re ro rl cn tn tk sp ba) := hD
  refine lv_aload_n hx hb dX3_rights_5 rfl (lv_at hl 0 rfl) ?_
  refine va_get (D := D) (ci := 4) (v := .int rg) (C := RX3) (T := TX3) (N := 19) hx hb hts hinRX3 hown hK hP 0 rfl rfl 7 (by decide) (hts (.fieldLink RX3 64 "LicenceKeeperModel" "rights" "I") (by decide +kernel)) (fun _ h9 => h9) rfl dX3_rights_6 ?_
  rw [hQ]
  exact W.iret (v := rg) hx hb hr (fun t ht hW => ⟨⟨rg, (0), rfl, e, ⟨by rw [ht]; exact hP, by rw [hAe]; exact hD⟩⟩, hS.F ht⟩) hS.2.2 dX3_rights_9

def pf_X3_countOf (rg : Int32) (rc : Nat → Int32) (p0 : Int32) (th : Int32) : Option (Int32 × Int32) :=
  kv_q1 (pf_X3_isRight rg p0) (fun r_7 => if r_7 = 0 then kv_q2 (pf_X3_fails 1 0) (fun r_24 u_24 => some (r_24, u_24)) else kv_G p0 12 (kv_T (rc p0.toNatClampNeg) (fun y_18 => some (y_18, 0))))
abbrev rmX3_countOf : Room := { frames := 2, cells := 0, slots := 0, locals := 43 }
set_option maxHeartbeats 4000000 in
set_option maxRecDepth 100000 in
theorem c_X3_countOf (l : Launch) (D : va_G) (ci md : Nat → Nat) (th : Int32) (nw : Int32) (co : Nat → Int32) (ho : Nat → Int32) (ve : Nat → Int32) (la : Nat → Int32) (pr : Nat → Int32) (rg : Int32) (rp : Nat → Int32) (rm : Nat → Int32) (rc : Nat → Int32) (re : Nat → Int32) (ro : Nat → Int32) (rl : Nat → Int32) (cn : Nat → Int32) (tn : Nat → Int32) (tk : Nat → Int32) (sp : Nat → Int32) (ba : Int32) (p0 : Int32)  (hRn : pf_X3_countOf rg rc p0 th ≠ none) (sz : Nat) : Met l yX3_countOf wsX3_countOf rmX3_countOf (va_Pc [.ref (md 0), .int p0] (kv_pre D ci (kv_mw ci md th nw co ho ve la pr rg rp rm rc re ro rl cn tn tk sp ba) sz)) (va_Qi (fun (r : Int32) (u : Int32) => pf_X3_countOf rg rc p0 th = some (r, u)) (fun u t => kv_post D (kv_mw ci md th nw co ho ve la pr rg rp rm rc re ro rl cn tn tk sp ba) sz (kv_mw ci md u nw co ho ve la pr rg rp rm rc re ro rl cn tn tk sp ba) t) (va_A (kv_mw ci md th nw co ho ve la pr rg rp rm rc re ro rl cn tn tk sp ba) sz)) 0 0 (va_A (kv_mw ci md th nw co ho ve la pr rg rp rm rc re ro rl cn tn tk sp ba) sz) := by
  refine Met.ofW (cc := cX3_countOf) (maxL := 2) (ret := (some .int)) (by decide) rfl ?_
  intro p en s m args below meth c s₁ B hml hv
  obtain ⟨hv0, hsz, hP, hK, hD0⟩ := hv
  have hx := B.exec
  have hb := B.bytes
  have hr := B.returns
  have hts := atoms_spec (ws := wsX3_countOf) B.pre
  have hown : s.vm.findClass RX3 = some m.cls := findClass_of_methodNamed B.named
  have hlocks := B.notSynchronized
  subst hsz
  have hD := hD0.self (sz := s.heap.size)
  generalize hAe : va_A (kv_mw ci md th nw co ho ve la pr rg rp rm rc re ro rl cn tn tk sp ba) s.heap.size = A at hD ⊢
  have hA : ∀ q : Nat, s.heap.size ≤ q → A q := fun q h => by rw [← hAe]; exact Or.inr h
  have hS : va_S A s.heap s.heap [] := va_S.rf
  have hP : va_P D vwCl (kv_mw ci md th nw co ho ve la pr rg rp rm rc re ro rl cn tn tk sp ba) s.heap := hP
  have hinRX3 : ∀ w ∈ u_ws RX3 TX3 19, w ∈ wsX3_countOf := by decide +kernel
  generalize hRd : pf_X3_countOf rg rc p0 th = Rz at hRn
  have hRz := hRn
  refine kv_Q (fun Q hQ => ?_)
  refine W.eq (show entryFrame m args 2 = _ from by rw [hv0, lg_entry_eq]) ?_
  have hl := lv_entry ([.ref (md 0), .int p0]) (n := 2) (Nat.le_of_ble_eq_true rfl)
  generalize (lg_sl ([.ref (md 0), .int p0]) ++ List.replicate (2 - (lg_sl ([.ref (md 0), .int p0])).length) Slot.unset).toArray = ls at hl ⊢
  have hl : lv_has ls 2 [(0, .ref (md 0)), (1, .int p0)] := hl
  have e : Rz = pf_X3_countOf rg rc p0 th := hRd.symm
  rw [pf_X3_countOf] at e
  refine lv_aload_n hx hb dX3_countOf_0 rfl (lv_at hl 0 rfl) ?_
  refine lv_iconst (v := 0) hx hb dX3_countOf_1 (by decide) ?_
  refine va_put (D := D) (ci := 4) (v := .int 0) (ty := .int) (C := RX3) (T := TX3) (N := 19) hx hb hts hinRX3 tyX3 tyX3_ok nmX3 hown hK hP hD hS 0 rfl rfl 0 (by decide) (hts (.fieldLink RX3 56 "LicenceKeeperModel" "thrown" "I") (by decide +kernel)) (fun _ h9 => h9) rfl (by decide +kernel) rfl rfl (Nat.le_of_ble_eq_true rfl) dX3_countOf_2 (fun H locs hP hD hS => ?_)
  have hP : va_P D vwCl (kv_mw ci md 0 nw co ho ve la pr rg rp rm rc re ro rl cn tn tk sp ba) H := hP
  have hD : va_D A (kv_mw ci md 0 nw co ho ve la pr rg rp rm rc re ro rl cn tn tk sp ba) := hD
  refine lv_aload_n hx hb dX3_countOf_5 rfl (lv_at hl 0 rfl) ?_
  refine lv_iload_n hx hb dX3_countOf_6 rfl (lv_at hl 1 rfl) ?_
  refine kv_calli (va_runV (As := [.int p0]) (rest := []) ⟨hx, hb, hml, hown, hts⟩ (c_X3_isRight l D ci md 0 nw co ho ve la pr rg rp rm rc re ro rl cn tn tk sp ba p0 (kv_q1_n e hRz) H.size) (cwV 1 hts gX3_countOf_X3_isRight rfl rfl rfl (by decide +kernel) ⟨Nat.le_of_ble_eq_true rfl, Nat.le_of_ble_eq_true rfl⟩) (kv_preV hK hP hD (r := (RX3, TX3, 19)) (q0 := 0) (k := 4) rfl rfl rfl) rfl rfl hl.1 rfl (lv_room (Nat.le_of_ble_eq_true rfl)) dX3_countOf_7 ⟨Nat.le_of_ble_eq_true rfl, Nat.le_of_ble_eq_true rfl⟩) hD hS hA (fun r_7 u_7 H locs hw_7 hP hD hS => ?_)
  have e := kv_q1_e e hw_7
  refine lv_if_eq (tgt := 22) hx hb dX3_countOf_10 (by decide) (fun c_10 => ?_) (fun c_10 => ?_)
  · have e := e.trans (if_pos c_10)
    refine lv_aload_n hx hb dX3_countOf_22 rfl (lv_at hl 0 rfl) ?_
    refine lv_iconst (v := 1) hx hb dX3_countOf_23 (by decide) ?_
    refine kv_calli (va_runV (As := [.int 1]) (rest := []) ⟨hx, hb, hml, hown, hts⟩ (c_X3_fails l D ci md 0 nw co ho ve la pr rg rp rm rc re ro rl cn tn tk sp ba 1 (kv_q2_n e hRz) H.size) (cwV 1 hts gX3_countOf_X3_fails rfl rfl rfl (by decide +kernel) ⟨Nat.le_of_ble_eq_true rfl, Nat.le_of_ble_eq_true rfl⟩) (kv_preV hK hP hD (r := (RX3, TX3, 19)) (q0 := 0) (k := 4) rfl rfl rfl) rfl rfl hl.1 rfl (lv_room (Nat.le_of_ble_eq_true rfl)) dX3_countOf_24 ⟨Nat.le_of_ble_eq_true rfl, Nat.le_of_ble_eq_true rfl⟩) hD hS hA (fun r_24 u_24 H locs hw_24 hP hD hS => ?_)
    have e := kv_q2_e e hw_24
    have hP : va_P D vwCl (kv_mw ci md u_24 nw co ho ve la pr rg rp rm rc re ro rl cn tn tk sp ba) H := hP
    have hD : va_D A (kv_mw ci md u_24 nw co ho ve la pr rg rp rm rc re ro rl cn tn tk sp ba) := hD
    rw [hQ]
    exact W.iret (v := r_24) hx hb hr (fun t ht hW => ⟨⟨r_24, (u_24), rfl, e, ⟨by rw [ht]; exact hP, by rw [hAe]; exact hD⟩⟩, hS.F ht⟩) hS.2.2 dX3_countOf_27
  · have e := e.trans (if_neg c_10)
    refine lv_aload_n hx hb dX3_countOf_13 rfl (lv_at hl 0 rfl) ?_
    refine va_get (D := D) (ci := 4) (v := .ref (md 8)) (C := RX3) (T := TX3) (N := 19) hx hb hts hinRX3 hown hK hP 0 rfl rfl 10 (by decide) (hts (.fieldLink RX3 31 "LicenceKeeperModel" "count" "[I") (by decide +kernel)) (fun _ h9 => h9) rfl dX3_countOf_14 ?_
    refine lv_iload_n hx hb dX3_countOf_17 rfl (lv_at hl 1 rfl) ?_
    obtain ⟨hi_18, e⟩ := kv_G_e e hRz
    refine kv_iald hx hb hK hP 8 0 hi_18 dX3_countOf_18 rfl rfl (fun y_18 ey_18 => ?_)
    have e := kv_T_e e ey_18
    refine lv_goto (tgt := 27) hx hb dX3_countOf_19 (by decide) ?_
    rw [hQ]
    exact W.iret (v := y_18) hx hb hr (fun t ht hW => ⟨⟨y_18, (0), rfl, e, ⟨by rw [ht]; exact hP, by rw [hAe]; exact hD⟩⟩, hS.F ht⟩) hS.2.2 dX3_countOf_27

def pf_X3_versionOf (rg : Int32) (ro : Nat → Int32) (p0 : Int32) (th : Int32) : Option (Int32 × Int32) :=
  kv_q1 (pf_X3_isRight rg p0) (fun r_7 => if r_7 = 0 then kv_q2 (pf_X3_fails 1 0) (fun r_24 u_24 => some (r_24, u_24)) else kv_G p0 12 (kv_T (ro p0.toNatClampNeg) (fun y_18 => some (y_18, 0))))
abbrev rmX3_versionOf : Room := { frames := 2, cells := 0, slots := 0, locals := 43 }
set_option maxHeartbeats 4000000 in
set_option maxRecDepth 100000 in
theorem c_X3_versionOf (l : Launch) (D : va_G) (ci md : Nat → Nat) (th : Int32) (nw : Int32) (co : Nat → Int32) (ho : Nat → Int32) (ve : Nat → Int32) (la : Nat → Int32) (pr : Nat → Int32) (rg : Int32) (rp : Nat → Int32) (rm : Nat → Int32) (rc : Nat → Int32) (re : Nat → Int32) (ro : Nat → Int32) (rl : Nat → Int32) (cn : Nat → Int32) (tn : Nat → Int32) (tk : Nat → Int32) (sp : Nat → Int32) (ba : Int32) (p0 : Int32)  (hRn : pf_X3_versionOf rg ro p0 th ≠ none) (sz : Nat) : Met l yX3_versionOf wsX3_versionOf rmX3_versionOf (va_Pc [.ref (md 0), .int p0] (kv_pre D ci (kv_mw ci md th nw co ho ve la pr rg rp rm rc re ro rl cn tn tk sp ba) sz)) (va_Qi (fun (r : Int32) (u : Int32) => pf_X3_versionOf rg ro p0 th = some (r, u)) (fun u t => kv_post D (kv_mw ci md th nw co ho ve la pr rg rp rm rc re ro rl cn tn tk sp ba) sz (kv_mw ci md u nw co ho ve la pr rg rp rm rc re ro rl cn tn tk sp ba) t) (va_A (kv_mw ci md th nw co ho ve la pr rg rp rm rc re ro rl cn tn tk sp ba) sz)) 0 0 (va_A (kv_mw ci md th nw co ho ve la pr rg rp rm rc re ro rl cn tn tk sp ba) sz) := by
  refine Met.ofW (cc := cX3_versionOf) (maxL := 2) (ret := (some .int)) (by decide) rfl ?_
  intro p en s m args below meth c s₁ B hml hv
  obtain ⟨hv0, hsz, hP, hK, hD0⟩ := hv
  have hx := B.exec
  have hb := B.bytes
  have hr := B.returns
  have hts := atoms_spec (ws := wsX3_versionOf) B.pre
  have hown : s.vm.findClass RX3 = some m.cls := findClass_of_methodNamed B.named
  have hlocks := B.notSynchronized
  subst hsz
  have hD := hD0.self (sz := s.heap.size)
  generalize hAe : va_A (kv_mw ci md th nw co ho ve la pr rg rp rm rc re ro rl cn tn tk sp ba) s.heap.size = A at hD ⊢
  have hA : ∀ q : Nat, s.heap.size ≤ q → A q := fun q h => by rw [← hAe]; exact Or.inr h
  have hS : va_S A s.heap s.heap [] := va_S.rf
  have hP : va_P D vwCl (kv_mw ci md th nw co ho ve la pr rg rp rm rc re ro rl cn tn tk sp ba) s.heap := hP
  have hinRX3 : ∀ w ∈ u_ws RX3 TX3 19, w ∈ wsX3_versionOf := by decide +kernel
  generalize hRd : pf_X3_versionOf rg ro p0 th = Rz at hRn
  have hRz := hRn
  refine kv_Q (fun Q hQ => ?_)
  refine W.eq (show entryFrame m args 2 = _ from by rw [hv0, lg_entry_eq]) ?_
  have hl := lv_entry ([.ref (md 0), .int p0]) (n := 2) (Nat.le_of_ble_eq_true rfl)
  generalize (lg_sl ([.ref (md 0), .int p0]) ++ List.replicate (2 - (lg_sl ([.ref (md 0), .int p0])).length) Slot.unset).toArray = ls at hl ⊢
  have hl : lv_has ls 2 [(0, .ref (md 0)), (1, .int p0)] := hl
  have e : Rz = pf_X3_versionOf rg ro p0 th := hRd.symm
  rw [pf_X3_versionOf] at e
  refine lv_aload_n hx hb dX3_versionOf_0 rfl (lv_at hl 0 rfl) ?_
  refine lv_iconst (v := 0) hx hb dX3_versionOf_1 (by decide) ?_
  refine va_put (D := D) (ci := 4) (v := .int 0) (ty := .int) (C := RX3) (T := TX3) (N := 19) hx hb hts hinRX3 tyX3 tyX3_ok nmX3 hown hK hP hD hS 0 rfl rfl 0 (by decide) (hts (.fieldLink RX3 56 "LicenceKeeperModel" "thrown" "I") (by decide +kernel)) (fun _ h9 => h9) rfl (by decide +kernel) rfl rfl (Nat.le_of_ble_eq_true rfl) dX3_versionOf_2 (fun H locs hP hD hS => ?_)
  have hP : va_P D vwCl (kv_mw ci md 0 nw co ho ve la pr rg rp rm rc re ro rl cn tn tk sp ba) H := hP
  have hD : va_D A (kv_mw ci md 0 nw co ho ve la pr rg rp rm rc re ro rl cn tn tk sp ba) := hD
  refine lv_aload_n hx hb dX3_versionOf_5 rfl (lv_at hl 0 rfl) ?_
  refine lv_iload_n hx hb dX3_versionOf_6 rfl (lv_at hl 1 rfl) ?_
  refine kv_calli (va_runV (As := [.int p0]) (rest := []) ⟨hx, hb, hml, hown, hts⟩ (c_X3_isRight l D ci md 0 nw co ho ve la pr rg rp rm rc re ro rl cn tn tk sp ba p0 (kv_q1_n e hRz) H.size) (cwV 1 hts gX3_versionOf_X3_isRight rfl rfl rfl (by decide +kernel) ⟨Nat.le_of_ble_eq_true rfl, Nat.le_of_ble_eq_true rfl⟩) (kv_preV hK hP hD (r := (RX3, TX3, 19)) (q0 := 0) (k := 4) rfl rfl rfl) rfl rfl hl.1 rfl (lv_room (Nat.le_of_ble_eq_true rfl)) dX3_versionOf_7 ⟨Nat.le_of_ble_eq_true rfl, Nat.le_of_ble_eq_true rfl⟩) hD hS hA (fun r_7 u_7 H locs hw_7 hP hD hS => ?_)
  have e := kv_q1_e e hw_7
  refine lv_if_eq (tgt := 22) hx hb dX3_versionOf_10 (by decide) (fun c_10 => ?_) (fun c_10 => ?_)
  · have e := e.trans (if_pos c_10)
    refine lv_aload_n hx hb dX3_versionOf_22 rfl (lv_at hl 0 rfl) ?_
    refine lv_iconst (v := 1) hx hb dX3_versionOf_23 (by decide) ?_
    refine kv_calli (va_runV (As := [.int 1]) (rest := []) ⟨hx, hb, hml, hown, hts⟩ (c_X3_fails l D ci md 0 nw co ho ve la pr rg rp rm rc re ro rl cn tn tk sp ba 1 (kv_q2_n e hRz) H.size) (cwV 1 hts gX3_versionOf_X3_fails rfl rfl rfl (by decide +kernel) ⟨Nat.le_of_ble_eq_true rfl, Nat.le_of_ble_eq_true rfl⟩) (kv_preV hK hP hD (r := (RX3, TX3, 19)) (q0 := 0) (k := 4) rfl rfl rfl) rfl rfl hl.1 rfl (lv_room (Nat.le_of_ble_eq_true rfl)) dX3_versionOf_24 ⟨Nat.le_of_ble_eq_true rfl, Nat.le_of_ble_eq_true rfl⟩) hD hS hA (fun r_24 u_24 H locs hw_24 hP hD hS => ?_)
    have e := kv_q2_e e hw_24
    have hP : va_P D vwCl (kv_mw ci md u_24 nw co ho ve la pr rg rp rm rc re ro rl cn tn tk sp ba) H := hP
    have hD : va_D A (kv_mw ci md u_24 nw co ho ve la pr rg rp rm rc re ro rl cn tn tk sp ba) := hD
    rw [hQ]
    exact W.iret (v := r_24) hx hb hr (fun t ht hW => ⟨⟨r_24, (u_24), rfl, e, ⟨by rw [ht]; exact hP, by rw [hAe]; exact hD⟩⟩, hS.F ht⟩) hS.2.2 dX3_versionOf_27
  · have e := e.trans (if_neg c_10)
    refine lv_aload_n hx hb dX3_versionOf_13 rfl (lv_at hl 0 rfl) ?_
    refine va_get (D := D) (ci := 4) (v := .ref (md 10)) (C := RX3) (T := TX3) (N := 19) hx hb hts hinRX3 hown hK hP 0 rfl rfl 12 (by decide) (hts (.fieldLink RX3 37 "LicenceKeeperModel" "of" "[I") (by decide +kernel)) (fun _ h9 => h9) rfl dX3_versionOf_14 ?_
    refine lv_iload_n hx hb dX3_versionOf_17 rfl (lv_at hl 1 rfl) ?_
    obtain ⟨hi_18, e⟩ := kv_G_e e hRz
    refine kv_iald hx hb hK hP 10 0 hi_18 dX3_versionOf_18 rfl rfl (fun y_18 ey_18 => ?_)
    have e := kv_T_e e ey_18
    refine lv_goto (tgt := 27) hx hb dX3_versionOf_19 (by decide) ?_
    rw [hQ]
    exact W.iret (v := y_18) hx hb hr (fun t ht hW => ⟨⟨y_18, (0), rfl, e, ⟨by rw [ht]; exact hP, by rw [hAe]; exact hD⟩⟩, hS.F ht⟩) hS.2.2 dX3_versionOf_27

def pf_X3_latest (la : Nat → Int32) (p0 : Int32) (th : Int32) : Option (Int32 × Int32) :=
  kv_q1 (pf_X3_isProduct p0) (fun r_6 => if r_6 = 0 then kv_q2 (pf_X3_fails 1 0) (fun r_23 u_23 => some (r_23, u_23)) else kv_G p0 4 (kv_T (la p0.toNatClampNeg) (fun y_17 => some (y_17, 0))))
abbrev rmX3_latest : Room := { frames := 2, cells := 0, slots := 0, locals := 42 }
set_option maxHeartbeats 4000000 in
set_option maxRecDepth 100000 in
theorem c_X3_latest (l : Launch) (D : va_G) (ci md : Nat → Nat) (th : Int32) (nw : Int32) (co : Nat → Int32) (ho : Nat → Int32) (ve : Nat → Int32) (la : Nat → Int32) (pr : Nat → Int32) (rg : Int32) (rp : Nat → Int32) (rm : Nat → Int32) (rc : Nat → Int32) (re : Nat → Int32) (ro : Nat → Int32) (rl : Nat → Int32) (cn : Nat → Int32) (tn : Nat → Int32) (tk : Nat → Int32) (sp : Nat → Int32) (ba : Int32) (p0 : Int32)  (hRn : pf_X3_latest la p0 th ≠ none) (sz : Nat) : Met l yX3_latest wsX3_latest rmX3_latest (va_Pc [.ref (md 0), .int p0] (kv_pre D ci (kv_mw ci md th nw co ho ve la pr rg rp rm rc re ro rl cn tn tk sp ba) sz)) (va_Qi (fun (r : Int32) (u : Int32) => pf_X3_latest la p0 th = some (r, u)) (fun u t => kv_post D (kv_mw ci md th nw co ho ve la pr rg rp rm rc re ro rl cn tn tk sp ba) sz (kv_mw ci md u nw co ho ve la pr rg rp rm rc re ro rl cn tn tk sp ba) t) (va_A (kv_mw ci md th nw co ho ve la pr rg rp rm rc re ro rl cn tn tk sp ba) sz)) 0 0 (va_A (kv_mw ci md th nw co ho ve la pr rg rp rm rc re ro rl cn tn tk sp ba) sz) := by
  refine Met.ofW (cc := cX3_latest) (maxL := 2) (ret := (some .int)) (by decide) rfl ?_
  intro p en s m args below meth c s₁ B hml hv
  obtain ⟨hv0, hsz, hP, hK, hD0⟩ := hv
  have hx := B.exec
  have hb := B.bytes
  have hr := B.returns
  have hts := atoms_spec (ws := wsX3_latest) B.pre
  have hown : s.vm.findClass RX3 = some m.cls := findClass_of_methodNamed B.named
  have hlocks := B.notSynchronized
  subst hsz
  have hD := hD0.self (sz := s.heap.size)
  generalize hAe : va_A (kv_mw ci md th nw co ho ve la pr rg rp rm rc re ro rl cn tn tk sp ba) s.heap.size = A at hD ⊢
  have hA : ∀ q : Nat, s.heap.size ≤ q → A q := fun q h => by rw [← hAe]; exact Or.inr h
  have hS : va_S A s.heap s.heap [] := va_S.rf
  have hP : va_P D vwCl (kv_mw ci md th nw co ho ve la pr rg rp rm rc re ro rl cn tn tk sp ba) s.heap := hP
  have hinRX3 : ∀ w ∈ u_ws RX3 TX3 19, w ∈ wsX3_latest := by decide +kernel
  generalize hRd : pf_X3_latest la p0 th = Rz at hRn
  have hRz := hRn
  refine kv_Q (fun Q hQ => ?_)
  refine W.eq (show entryFrame m args 2 = _ from by rw [hv0, lg_entry_eq]) ?_
  have hl := lv_entry ([.ref (md 0), .int p0]) (n := 2) (Nat.le_of_ble_eq_true rfl)
  generalize (lg_sl ([.ref (md 0), .int p0]) ++ List.replicate (2 - (lg_sl ([.ref (md 0), .int p0])).length) Slot.unset).toArray = ls at hl ⊢
  have hl : lv_has ls 2 [(0, .ref (md 0)), (1, .int p0)] := hl
  have e : Rz = pf_X3_latest la p0 th := hRd.symm
  rw [pf_X3_latest] at e
  refine lv_aload_n hx hb dX3_latest_0 rfl (lv_at hl 0 rfl) ?_
  refine lv_iconst (v := 0) hx hb dX3_latest_1 (by decide) ?_
  refine va_put (D := D) (ci := 4) (v := .int 0) (ty := .int) (C := RX3) (T := TX3) (N := 19) hx hb hts hinRX3 tyX3 tyX3_ok nmX3 hown hK hP hD hS 0 rfl rfl 0 (by decide) (hts (.fieldLink RX3 56 "LicenceKeeperModel" "thrown" "I") (by decide +kernel)) (fun _ h9 => h9) rfl (by decide +kernel) rfl rfl (Nat.le_of_ble_eq_true rfl) dX3_latest_2 (fun H locs hP hD hS => ?_)
  have hP : va_P D vwCl (kv_mw ci md 0 nw co ho ve la pr rg rp rm rc re ro rl cn tn tk sp ba) H := hP
  have hD : va_D A (kv_mw ci md 0 nw co ho ve la pr rg rp rm rc re ro rl cn tn tk sp ba) := hD
  refine lv_iload_n hx hb dX3_latest_5 rfl (lv_at hl 1 rfl) ?_
  refine kv_calli (va_runS (As := [.int p0]) (rest := []) ⟨hx, hb, hml, hown, hts⟩ (c_X3_isProduct l D ci md 0 nw co ho ve la pr rg rp rm rc re ro rl cn tn tk sp ba p0 (kv_q1_n e hRz) H.size) (va_cwS 1 hts gX3_latest_X3_isProduct rfl rfl rfl (by decide +kernel) ⟨Nat.le_of_ble_eq_true rfl, Nat.le_of_ble_eq_true rfl⟩) (kv_preS hK hP hD) rfl rfl hl.1 rfl (lv_room (Nat.le_of_ble_eq_true rfl)) dX3_latest_6 ⟨Nat.le_of_ble_eq_true rfl, Nat.le_of_ble_eq_true rfl⟩) hD hS hA (fun r_6 u_6 H locs hw_6 hP hD hS => ?_)
  have e := kv_q1_e e hw_6
  refine lv_if_eq (tgt := 21) hx hb dX3_latest_9 (by decide) (fun c_9 => ?_) (fun c_9 => ?_)
  · have e := e.trans (if_pos c_9)
    refine lv_aload_n hx hb dX3_latest_21 rfl (lv_at hl 0 rfl) ?_
    refine lv_iconst (v := 1) hx hb dX3_latest_22 (by decide) ?_
    refine kv_calli (va_runV (As := [.int 1]) (rest := []) ⟨hx, hb, hml, hown, hts⟩ (c_X3_fails l D ci md 0 nw co ho ve la pr rg rp rm rc re ro rl cn tn tk sp ba 1 (kv_q2_n e hRz) H.size) (cwV 1 hts gX3_latest_X3_fails rfl rfl rfl (by decide +kernel) ⟨Nat.le_of_ble_eq_true rfl, Nat.le_of_ble_eq_true rfl⟩) (kv_preV hK hP hD (r := (RX3, TX3, 19)) (q0 := 0) (k := 4) rfl rfl rfl) rfl rfl hl.1 rfl (lv_room (Nat.le_of_ble_eq_true rfl)) dX3_latest_23 ⟨Nat.le_of_ble_eq_true rfl, Nat.le_of_ble_eq_true rfl⟩) hD hS hA (fun r_23 u_23 H locs hw_23 hP hD hS => ?_)
    have e := kv_q2_e e hw_23
    have hP : va_P D vwCl (kv_mw ci md u_23 nw co ho ve la pr rg rp rm rc re ro rl cn tn tk sp ba) H := hP
    have hD : va_D A (kv_mw ci md u_23 nw co ho ve la pr rg rp rm rc re ro rl cn tn tk sp ba) := hD
    rw [hQ]
    exact W.iret (v := r_23) hx hb hr (fun t ht hW => ⟨⟨r_23, (u_23), rfl, e, ⟨by rw [ht]; exact hP, by rw [hAe]; exact hD⟩⟩, hS.F ht⟩) hS.2.2 dX3_latest_26
  · have e := e.trans (if_neg c_9)
    refine lv_aload_n hx hb dX3_latest_12 rfl (lv_at hl 0 rfl) ?_
    refine va_get (D := D) (ci := 4) (v := .ref (md 4)) (C := RX3) (T := TX3) (N := 19) hx hb hts hinRX3 hown hK hP 0 rfl rfl 5 (by decide) (hts (.fieldLink RX3 19 "LicenceKeeperModel" "latest" "[I") (by decide +kernel)) (fun _ h9 => h9) rfl dX3_latest_13 ?_
    refine lv_iload_n hx hb dX3_latest_16 rfl (lv_at hl 1 rfl) ?_
    obtain ⟨hi_17, e⟩ := kv_G_e e hRz
    refine kv_iald hx hb hK hP 4 0 hi_17 dX3_latest_17 rfl rfl (fun y_17 ey_17 => ?_)
    have e := kv_T_e e ey_17
    refine lv_goto (tgt := 26) hx hb dX3_latest_18 (by decide) ?_
    rw [hQ]
    exact W.iret (v := y_17) hx hb hr (fun t ht hW => ⟨⟨y_17, (0), rfl, e, ⟨by rw [ht]; exact hP, by rw [hAe]; exact hD⟩⟩, hS.F ht⟩) hS.2.2 dX3_latest_26

def pf_X3_hostOf (ho : Nat → Int32) (p0 : Int32) (th : Int32) : Option (Int32 × Int32) :=
  kv_q1 (pf_X3_isMachine p0) (fun r_6 => if r_6 = 0 then kv_q2 (pf_X3_fails 1 0) (fun r_23 u_23 => some (r_23, u_23)) else kv_G p0 8 (kv_T (ho p0.toNatClampNeg) (fun y_17 => some (y_17, 0))))
abbrev rmX3_hostOf : Room := { frames := 2, cells := 0, slots := 0, locals := 42 }
set_option maxHeartbeats 4000000 in
set_option maxRecDepth 100000 in
theorem c_X3_hostOf (l : Launch) (D : va_G) (ci md : Nat → Nat) (th : Int32) (nw : Int32) (co : Nat → Int32) (ho : Nat → Int32) (ve : Nat → Int32) (la : Nat → Int32) (pr : Nat → Int32) (rg : Int32) (rp : Nat → Int32) (rm : Nat → Int32) (rc : Nat → Int32) (re : Nat → Int32) (ro : Nat → Int32) (rl : Nat → Int32) (cn : Nat → Int32) (tn : Nat → Int32) (tk : Nat → Int32) (sp : Nat → Int32) (ba : Int32) (p0 : Int32)  (hRn : pf_X3_hostOf ho p0 th ≠ none) (sz : Nat) : Met l yX3_hostOf wsX3_hostOf rmX3_hostOf (va_Pc [.ref (md 0), .int p0] (kv_pre D ci (kv_mw ci md th nw co ho ve la pr rg rp rm rc re ro rl cn tn tk sp ba) sz)) (va_Qi (fun (r : Int32) (u : Int32) => pf_X3_hostOf ho p0 th = some (r, u)) (fun u t => kv_post D (kv_mw ci md th nw co ho ve la pr rg rp rm rc re ro rl cn tn tk sp ba) sz (kv_mw ci md u nw co ho ve la pr rg rp rm rc re ro rl cn tn tk sp ba) t) (va_A (kv_mw ci md th nw co ho ve la pr rg rp rm rc re ro rl cn tn tk sp ba) sz)) 0 0 (va_A (kv_mw ci md th nw co ho ve la pr rg rp rm rc re ro rl cn tn tk sp ba) sz) := by
  refine Met.ofW (cc := cX3_hostOf) (maxL := 2) (ret := (some .int)) (by decide) rfl ?_
  intro p en s m args below meth c s₁ B hml hv
  obtain ⟨hv0, hsz, hP, hK, hD0⟩ := hv
  have hx := B.exec
  have hb := B.bytes
  have hr := B.returns
  have hts := atoms_spec (ws := wsX3_hostOf) B.pre
  have hown : s.vm.findClass RX3 = some m.cls := findClass_of_methodNamed B.named
  have hlocks := B.notSynchronized
  subst hsz
  have hD := hD0.self (sz := s.heap.size)
  generalize hAe : va_A (kv_mw ci md th nw co ho ve la pr rg rp rm rc re ro rl cn tn tk sp ba) s.heap.size = A at hD ⊢
  have hA : ∀ q : Nat, s.heap.size ≤ q → A q := fun q h => by rw [← hAe]; exact Or.inr h
  have hS : va_S A s.heap s.heap [] := va_S.rf
  have hP : va_P D vwCl (kv_mw ci md th nw co ho ve la pr rg rp rm rc re ro rl cn tn tk sp ba) s.heap := hP
  have hinRX3 : ∀ w ∈ u_ws RX3 TX3 19, w ∈ wsX3_hostOf := by decide +kernel
  generalize hRd : pf_X3_hostOf ho p0 th = Rz at hRn
  have hRz := hRn
  refine kv_Q (fun Q hQ => ?_)
  refine W.eq (show entryFrame m args 2 = _ from by rw [hv0, lg_entry_eq]) ?_
  have hl := lv_entry ([.ref (md 0), .int p0]) (n := 2) (Nat.le_of_ble_eq_true rfl)
  generalize (lg_sl ([.ref (md 0), .int p0]) ++ List.replicate (2 - (lg_sl ([.ref (md 0), .int p0])).length) Slot.unset).toArray = ls at hl ⊢
  have hl : lv_has ls 2 [(0, .ref (md 0)), (1, .int p0)] := hl
  have e : Rz = pf_X3_hostOf ho p0 th := hRd.symm
  rw [pf_X3_hostOf] at e
  refine lv_aload_n hx hb dX3_hostOf_0 rfl (lv_at hl 0 rfl) ?_
  refine lv_iconst (v := 0) hx hb dX3_hostOf_1 (by decide) ?_
  refine va_put (D := D) (ci := 4) (v := .int 0) (ty := .int) (C := RX3) (T := TX3) (N := 19) hx hb hts hinRX3 tyX3 tyX3_ok nmX3 hown hK hP hD hS 0 rfl rfl 0 (by decide) (hts (.fieldLink RX3 56 "LicenceKeeperModel" "thrown" "I") (by decide +kernel)) (fun _ h9 => h9) rfl (by decide +kernel) rfl rfl (Nat.le_of_ble_eq_true rfl) dX3_hostOf_2 (fun H locs hP hD hS => ?_)
  have hP : va_P D vwCl (kv_mw ci md 0 nw co ho ve la pr rg rp rm rc re ro rl cn tn tk sp ba) H := hP
  have hD : va_D A (kv_mw ci md 0 nw co ho ve la pr rg rp rm rc re ro rl cn tn tk sp ba) := hD
  refine lv_iload_n hx hb dX3_hostOf_5 rfl (lv_at hl 1 rfl) ?_
  refine kv_calli (va_runS (As := [.int p0]) (rest := []) ⟨hx, hb, hml, hown, hts⟩ (c_X3_isMachine l D ci md 0 nw co ho ve la pr rg rp rm rc re ro rl cn tn tk sp ba p0 (kv_q1_n e hRz) H.size) (va_cwS 1 hts gX3_hostOf_X3_isMachine rfl rfl rfl (by decide +kernel) ⟨Nat.le_of_ble_eq_true rfl, Nat.le_of_ble_eq_true rfl⟩) (kv_preS hK hP hD) rfl rfl hl.1 rfl (lv_room (Nat.le_of_ble_eq_true rfl)) dX3_hostOf_6 ⟨Nat.le_of_ble_eq_true rfl, Nat.le_of_ble_eq_true rfl⟩) hD hS hA (fun r_6 u_6 H locs hw_6 hP hD hS => ?_)
  have e := kv_q1_e e hw_6
  refine lv_if_eq (tgt := 21) hx hb dX3_hostOf_9 (by decide) (fun c_9 => ?_) (fun c_9 => ?_)
  · have e := e.trans (if_pos c_9)
    refine lv_aload_n hx hb dX3_hostOf_21 rfl (lv_at hl 0 rfl) ?_
    refine lv_iconst (v := 1) hx hb dX3_hostOf_22 (by decide) ?_
    refine kv_calli (va_runV (As := [.int 1]) (rest := []) ⟨hx, hb, hml, hown, hts⟩ (c_X3_fails l D ci md 0 nw co ho ve la pr rg rp rm rc re ro rl cn tn tk sp ba 1 (kv_q2_n e hRz) H.size) (cwV 1 hts gX3_hostOf_X3_fails rfl rfl rfl (by decide +kernel) ⟨Nat.le_of_ble_eq_true rfl, Nat.le_of_ble_eq_true rfl⟩) (kv_preV hK hP hD (r := (RX3, TX3, 19)) (q0 := 0) (k := 4) rfl rfl rfl) rfl rfl hl.1 rfl (lv_room (Nat.le_of_ble_eq_true rfl)) dX3_hostOf_23 ⟨Nat.le_of_ble_eq_true rfl, Nat.le_of_ble_eq_true rfl⟩) hD hS hA (fun r_23 u_23 H locs hw_23 hP hD hS => ?_)
    have e := kv_q2_e e hw_23
    have hP : va_P D vwCl (kv_mw ci md u_23 nw co ho ve la pr rg rp rm rc re ro rl cn tn tk sp ba) H := hP
    have hD : va_D A (kv_mw ci md u_23 nw co ho ve la pr rg rp rm rc re ro rl cn tn tk sp ba) := hD
    rw [hQ]
    exact W.iret (v := r_23) hx hb hr (fun t ht hW => ⟨⟨r_23, (u_23), rfl, e, ⟨by rw [ht]; exact hP, by rw [hAe]; exact hD⟩⟩, hS.F ht⟩) hS.2.2 dX3_hostOf_26
  · have e := e.trans (if_neg c_9)
    refine lv_aload_n hx hb dX3_hostOf_12 rfl (lv_at hl 0 rfl) ?_
    refine va_get (D := D) (ci := 4) (v := .ref (md 2)) (C := RX3) (T := TX3) (N := 19) hx hb hts hinRX3 hown hK hP 0 rfl rfl 3 (by decide) (hts (.fieldLink RX3 13 "LicenceKeeperModel" "host" "[I") (by decide +kernel)) (fun _ h9 => h9) rfl dX3_hostOf_13 ?_
    refine lv_iload_n hx hb dX3_hostOf_16 rfl (lv_at hl 1 rfl) ?_
    obtain ⟨hi_17, e⟩ := kv_G_e e hRz
    refine kv_iald hx hb hK hP 2 0 hi_17 dX3_hostOf_17 rfl rfl (fun y_17 ey_17 => ?_)
    have e := kv_T_e e ey_17
    refine lv_goto (tgt := 26) hx hb dX3_hostOf_18 (by decide) ?_
    rw [hQ]
    exact W.iret (v := y_17) hx hb hr (fun t ht hW => ⟨⟨y_17, (0), rfl, e, ⟨by rw [ht]; exact hP, by rw [hAe]; exact hD⟩⟩, hS.F ht⟩) hS.2.2 dX3_hostOf_26

def pf_X3_weighs (co : Nat → Int32) (ve : Nat → Int32) (pr : Nat → Int32) (p0 : Int32) (p1 : Int32)  : Option (Int32) :=
  kv_G ((4 * p0) + p1) 32 (kv_T (ve ((4 * p0) + p1).toNatClampNeg) (fun y_9 => if y_9 ≤ 0 then some (0) else kv_G p0 8 (kv_T (co p0.toNatClampNeg) (fun y_18 => kv_G p1 4 (kv_T (pr p1.toNatClampNeg) (fun y_24 => some ((y_18 * y_24))))))))
abbrev rmX3_weighs : Room := { frames := 0, cells := 0, slots := 0, locals := 0 }
set_option maxHeartbeats 4000000 in
set_option maxRecDepth 100000 in
theorem c_X3_weighs (l : Launch) (D : va_G) (ci md : Nat → Nat) (th : Int32) (nw : Int32) (co : Nat → Int32) (ho : Nat → Int32) (ve : Nat → Int32) (la : Nat → Int32) (pr : Nat → Int32) (rg : Int32) (rp : Nat → Int32) (rm : Nat → Int32) (rc : Nat → Int32) (re : Nat → Int32) (ro : Nat → Int32) (rl : Nat → Int32) (cn : Nat → Int32) (tn : Nat → Int32) (tk : Nat → Int32) (sp : Nat → Int32) (ba : Int32) (p0 : Int32) (p1 : Int32)  (hRn : pf_X3_weighs co ve pr p0 p1 ≠ none) (sz : Nat) : Met l yX3_weighs wsX3_weighs rmX3_weighs (va_Pc [.ref (md 0), .int p0, .int p1] (kv_pre D ci (kv_mw ci md th nw co ho ve la pr rg rp rm rc re ro rl cn tn tk sp ba) sz)) (va_Qi (fun (r : Int32) (u : Unit) => pf_X3_weighs co ve pr p0 p1 = some (r)) (fun u t => kv_post D (kv_mw ci md th nw co ho ve la pr rg rp rm rc re ro rl cn tn tk sp ba) sz (kv_mw ci md th nw co ho ve la pr rg rp rm rc re ro rl cn tn tk sp ba) t) (va_A (kv_mw ci md th nw co ho ve la pr rg rp rm rc re ro rl cn tn tk sp ba) sz)) 0 0 (va_A (kv_mw ci md th nw co ho ve la pr rg rp rm rc re ro rl cn tn tk sp ba) sz) := by
  refine Met.ofW (cc := cX3_weighs) (maxL := 3) (ret := (some .int)) (by decide) rfl ?_
  intro p en s m args below meth c s₁ B hml hv
  obtain ⟨hv0, hsz, hP, hK, hD0⟩ := hv
  have hx := B.exec
  have hb := B.bytes
  have hr := B.returns
  have hts := atoms_spec (ws := wsX3_weighs) B.pre
  have hown : s.vm.findClass RX3 = some m.cls := findClass_of_methodNamed B.named
  have hlocks := B.notSynchronized
  subst hsz
  have hD := hD0.self (sz := s.heap.size)
  generalize hAe : va_A (kv_mw ci md th nw co ho ve la pr rg rp rm rc re ro rl cn tn tk sp ba) s.heap.size = A at hD ⊢
  have hA : ∀ q : Nat, s.heap.size ≤ q → A q := fun q h => by rw [← hAe]; exact Or.inr h
  have hS : va_S A s.heap s.heap [] := va_S.rf
  have hP : va_P D vwCl (kv_mw ci md th nw co ho ve la pr rg rp rm rc re ro rl cn tn tk sp ba) s.heap := hP
  have hinRX3 : ∀ w ∈ u_ws RX3 TX3 19, w ∈ wsX3_weighs := by decide +kernel
  generalize hRd : pf_X3_weighs co ve pr p0 p1 = Rz at hRn
  have hRz := hRn
  refine kv_Q (fun Q hQ => ?_)
  refine W.eq (show entryFrame m args 3 = _ from by rw [hv0, lg_entry_eq]) ?_
  have hl := lv_entry ([.ref (md 0), .int p0, .int p1]) (n := 3) (Nat.le_of_ble_eq_true rfl)
  generalize (lg_sl ([.ref (md 0), .int p0, .int p1]) ++ List.replicate (3 - (lg_sl ([.ref (md 0), .int p0, .int p1])).length) Slot.unset).toArray = ls at hl ⊢
  have hl : lv_has ls 3 [(0, .ref (md 0)), (1, .int p0), (2, .int p1)] := hl
  have e : Rz = pf_X3_weighs co ve pr p0 p1 := hRd.symm
  rw [pf_X3_weighs] at e
  refine lv_aload_n hx hb dX3_weighs_0 rfl (lv_at hl 0 rfl) ?_
  refine va_get (D := D) (ci := 4) (v := .ref (md 3)) (C := RX3) (T := TX3) (N := 19) hx hb hts hinRX3 hown hK hP 0 rfl rfl 4 (by decide) (hts (.fieldLink RX3 16 "LicenceKeeperModel" "version" "[I") (by decide +kernel)) (fun _ h9 => h9) rfl dX3_weighs_1 ?_
  refine lv_iconst (v := 4) hx hb dX3_weighs_4 (by decide) ?_
  refine lv_iload_n hx hb dX3_weighs_5 rfl (lv_at hl 1 rfl) ?_
  refine lv_imul hx hb dX3_weighs_6 ?_
  refine lv_iload_n hx hb dX3_weighs_7 rfl (lv_at hl 2 rfl) ?_
  refine lv_iadd hx hb dX3_weighs_8 ?_
  obtain ⟨hi_9, e⟩ := kv_G_e e hRz
  refine kv_iald hx hb hK hP 3 0 hi_9 dX3_weighs_9 rfl rfl (fun y_9 ey_9 => ?_)
  have e := kv_T_e e ey_9
  refine lv_if_le (tgt := 29) hx hb dX3_weighs_10 (by decide) (fun c_10 => ?_) (fun c_10 => ?_)
  · have e := e.trans (if_pos c_10)
    refine lv_iconst (v := 0) hx hb dX3_weighs_29 (by decide) ?_
    rw [hQ]
    exact W.iret (v := 0) hx hb hr (fun t ht hW => ⟨⟨0, (), rfl, e, ⟨by rw [ht]; exact hP, by rw [hAe]; exact hD⟩⟩, hS.F ht⟩) hS.2.2 dX3_weighs_30
  · have e := e.trans (if_neg c_10)
    refine lv_aload_n hx hb dX3_weighs_13 rfl (lv_at hl 0 rfl) ?_
    refine va_get (D := D) (ci := 4) (v := .ref (md 1)) (C := RX3) (T := TX3) (N := 19) hx hb hts hinRX3 hown hK hP 0 rfl rfl 2 (by decide) (hts (.fieldLink RX3 7 "LicenceKeeperModel" "cores" "[I") (by decide +kernel)) (fun _ h9 => h9) rfl dX3_weighs_14 ?_
    refine lv_iload_n hx hb dX3_weighs_17 rfl (lv_at hl 1 rfl) ?_
    obtain ⟨hi_18, e⟩ := kv_G_e e hRz
    refine kv_iald hx hb hK hP 1 0 hi_18 dX3_weighs_18 rfl rfl (fun y_18 ey_18 => ?_)
    have e := kv_T_e e ey_18
    refine lv_aload_n hx hb dX3_weighs_19 rfl (lv_at hl 0 rfl) ?_
    refine va_get (D := D) (ci := 4) (v := .ref (md 5)) (C := RX3) (T := TX3) (N := 19) hx hb hts hinRX3 hown hK hP 0 rfl rfl 6 (by decide) (hts (.fieldLink RX3 22 "LicenceKeeperModel" "price" "[I") (by decide +kernel)) (fun _ h9 => h9) rfl dX3_weighs_20 ?_
    refine lv_iload_n hx hb dX3_weighs_23 rfl (lv_at hl 2 rfl) ?_
    obtain ⟨hi_24, e⟩ := kv_G_e e hRz
    refine kv_iald hx hb hK hP 5 0 hi_24 dX3_weighs_24 rfl rfl (fun y_24 ey_24 => ?_)
    have e := kv_T_e e ey_24
    refine lv_imul hx hb dX3_weighs_25 ?_
    refine lv_goto (tgt := 30) hx hb dX3_weighs_26 (by decide) ?_
    rw [hQ]
    exact W.iret (v := (y_18 * y_24)) hx hb hr (fun t ht hW => ⟨⟨(y_18 * y_24), (), rfl, e, ⟨by rw [ht]; exact hP, by rw [hAe]; exact hD⟩⟩, hS.F ht⟩) hS.2.2 dX3_weighs_30

def pf_X3_weight_28 (co : Nat → Int32) (ve : Nat → Int32) (pr : Nat → Int32) (p0 : Int32) (p1 : Int32)   (th : Int32) : Option (Int32 × Int32) :=
  kv_q2 (pf_X3_fails 1 th) (fun r_30 u_30 => some (r_30, u_30))
def pf_X3_weight (co : Nat → Int32) (ve : Nat → Int32) (pr : Nat → Int32) (p0 : Int32) (p1 : Int32) (th : Int32) : Option (Int32 × Int32) :=
  kv_q1 (pf_X3_isMachine p0) (fun r_6 => if r_6 = 0 then pf_X3_weight_28 co ve pr p0 p1 0 else kv_q1 (pf_X3_isProduct p1) (fun r_13 => if r_13 = 0 then pf_X3_weight_28 co ve pr p0 p1 0 else kv_q1 (pf_X3_weighs co ve pr p0 p1) (fun r_22 => some (r_22, 0))))
abbrev rmX3_weight : Room := { frames := 2, cells := 0, slots := 0, locals := 42 }
set_option maxHeartbeats 4000000 in
set_option maxRecDepth 100000 in
theorem c_X3_weight (l : Launch) (D : va_G) (ci md : Nat → Nat) (th : Int32) (nw : Int32) (co : Nat → Int32) (ho : Nat → Int32) (ve : Nat → Int32) (la : Nat → Int32) (pr : Nat → Int32) (rg : Int32) (rp : Nat → Int32) (rm : Nat → Int32) (rc : Nat → Int32) (re : Nat → Int32) (ro : Nat → Int32) (rl : Nat → Int32) (cn : Nat → Int32) (tn : Nat → Int32) (tk : Nat → Int32) (sp : Nat → Int32) (ba : Int32) (p0 : Int32) (p1 : Int32)  (hRn : pf_X3_weight co ve pr p0 p1 th ≠ none) (sz : Nat) : Met l yX3_weight wsX3_weight rmX3_weight (va_Pc [.ref (md 0), .int p0, .int p1] (kv_pre D ci (kv_mw ci md th nw co ho ve la pr rg rp rm rc re ro rl cn tn tk sp ba) sz)) (va_Qi (fun (r : Int32) (u : Int32) => pf_X3_weight co ve pr p0 p1 th = some (r, u)) (fun u t => kv_post D (kv_mw ci md th nw co ho ve la pr rg rp rm rc re ro rl cn tn tk sp ba) sz (kv_mw ci md u nw co ho ve la pr rg rp rm rc re ro rl cn tn tk sp ba) t) (va_A (kv_mw ci md th nw co ho ve la pr rg rp rm rc re ro rl cn tn tk sp ba) sz)) 0 0 (va_A (kv_mw ci md th nw co ho ve la pr rg rp rm rc re ro rl cn tn tk sp ba) sz) := by
  refine Met.ofW (cc := cX3_weight) (maxL := 3) (ret := (some .int)) (by decide) rfl ?_
  intro p en s m args below meth c s₁ B hml hv
  obtain ⟨hv0, hsz, hP, hK, hD0⟩ := hv
  have hx := B.exec
  have hb := B.bytes
  have hr := B.returns
  have hts := atoms_spec (ws := wsX3_weight) B.pre
  have hown : s.vm.findClass RX3 = some m.cls := findClass_of_methodNamed B.named
  have hlocks := B.notSynchronized
  subst hsz
  have hD := hD0.self (sz := s.heap.size)
  generalize hAe : va_A (kv_mw ci md th nw co ho ve la pr rg rp rm rc re ro rl cn tn tk sp ba) s.heap.size = A at hD ⊢
  have hA : ∀ q : Nat, s.heap.size ≤ q → A q := fun q h => by rw [← hAe]; exact Or.inr h
  have hS : va_S A s.heap s.heap [] := va_S.rf
  have hP : va_P D vwCl (kv_mw ci md th nw co ho ve la pr rg rp rm rc re ro rl cn tn tk sp ba) s.heap := hP
  have hinRX3 : ∀ w ∈ u_ws RX3 TX3 19, w ∈ wsX3_weight := by decide +kernel
  generalize hRd : pf_X3_weight co ve pr p0 p1 th = Rz at hRn
  have hRz := hRn
  refine kv_Q (fun Q hQ => ?_)
  refine W.eq (show entryFrame m args 3 = _ from by rw [hv0, lg_entry_eq]) ?_
  have hl := lv_entry ([.ref (md 0), .int p0, .int p1]) (n := 3) (Nat.le_of_ble_eq_true rfl)
  generalize (lg_sl ([.ref (md 0), .int p0, .int p1]) ++ List.replicate (3 - (lg_sl ([.ref (md 0), .int p0, .int p1])).length) Slot.unset).toArray = ls at hl ⊢
  have hl : lv_has ls 3 [(0, .ref (md 0)), (1, .int p0), (2, .int p1)] := hl
  have e : Rz = pf_X3_weight co ve pr p0 p1 th := hRd.symm
  rw [pf_X3_weight] at e
  have hb_28 : ∀ (th : Int32) (H : Heap) (locs : List Loc) (ls : Array Slot), va_P D vwCl (kv_mw ci md th nw co ho ve la pr rg rp rm rc re ro rl cn tn tk sp ba) H → va_D A (kv_mw ci md th nw co ho ve la pr rg rp rm rc re ro rl cn tn tk sp ba) → va_S A s.heap H locs → lv_has ls 3 [(0, .ref (md 0))] → Rz = pf_X3_weight_28 co ve pr p0 p1  th → W p l en rmX3_weight s m args below meth c H locs 0 0 Q (F0 m 28 ls []) := by
    intro th H locs ls  hP hD hS hl e
    rw [pf_X3_weight_28] at e
    refine lv_aload_n hx hb dX3_weight_28 rfl (lv_at hl 0 rfl) ?_
    refine lv_iconst (v := 1) hx hb dX3_weight_29 (by decide) ?_
    refine kv_calli (va_runV (As := [.int 1]) (rest := []) ⟨hx, hb, hml, hown, hts⟩ (c_X3_fails l D ci md th nw co ho ve la pr rg rp rm rc re ro rl cn tn tk sp ba 1 (kv_q2_n e hRz) H.size) (cwV 1 hts gX3_weight_X3_fails rfl rfl rfl (by decide +kernel) ⟨Nat.le_of_ble_eq_true rfl, Nat.le_of_ble_eq_true rfl⟩) (kv_preV hK hP hD (r := (RX3, TX3, 19)) (q0 := 0) (k := 4) rfl rfl rfl) rfl rfl hl.1 rfl (lv_room (Nat.le_of_ble_eq_true rfl)) dX3_weight_30 ⟨Nat.le_of_ble_eq_true rfl, Nat.le_of_ble_eq_true rfl⟩) hD hS hA (fun r_30 u_30 H locs hw_30 hP hD hS => ?_)
    have e := kv_q2_e e hw_30
    have hP : va_P D vwCl (kv_mw ci md u_30 nw co ho ve la pr rg rp rm rc re ro rl cn tn tk sp ba) H := hP
    have hD : va_D A (kv_mw ci md u_30 nw co ho ve la pr rg rp rm rc re ro rl cn tn tk sp ba) := hD
    rw [hQ]
    exact W.iret (v := r_30) hx hb hr (fun t ht hW => ⟨⟨r_30, (u_30), rfl, e, ⟨by rw [ht]; exact hP, by rw [hAe]; exact hD⟩⟩, hS.F ht⟩) hS.2.2 dX3_weight_33
  refine lv_aload_n hx hb dX3_weight_0 rfl (lv_at hl 0 rfl) ?_
  refine lv_iconst (v := 0) hx hb dX3_weight_1 (by decide) ?_
  refine va_put (D := D) (ci := 4) (v := .int 0) (ty := .int) (C := RX3) (T := TX3) (N := 19) hx hb hts hinRX3 tyX3 tyX3_ok nmX3 hown hK hP hD hS 0 rfl rfl 0 (by decide) (hts (.fieldLink RX3 56 "LicenceKeeperModel" "thrown" "I") (by decide +kernel)) (fun _ h9 => h9) rfl (by decide +kernel) rfl rfl (Nat.le_of_ble_eq_true rfl) dX3_weight_2 (fun H locs hP hD hS => ?_)
  have hP : va_P D vwCl (kv_mw ci md 0 nw co ho ve la pr rg rp rm rc re ro rl cn tn tk sp ba) H := hP
  have hD : va_D A (kv_mw ci md 0 nw co ho ve la pr rg rp rm rc re ro rl cn tn tk sp ba) := hD
  refine lv_iload_n hx hb dX3_weight_5 rfl (lv_at hl 1 rfl) ?_
  refine kv_calli (va_runS (As := [.int p0]) (rest := []) ⟨hx, hb, hml, hown, hts⟩ (c_X3_isMachine l D ci md 0 nw co ho ve la pr rg rp rm rc re ro rl cn tn tk sp ba p0 (kv_q1_n e hRz) H.size) (va_cwS 1 hts gX3_weight_X3_isMachine rfl rfl rfl (by decide +kernel) ⟨Nat.le_of_ble_eq_true rfl, Nat.le_of_ble_eq_true rfl⟩) (kv_preS hK hP hD) rfl rfl hl.1 rfl (lv_room (Nat.le_of_ble_eq_true rfl)) dX3_weight_6 ⟨Nat.le_of_ble_eq_true rfl, Nat.le_of_ble_eq_true rfl⟩) hD hS hA (fun r_6 u_6 H locs hw_6 hP hD hS => ?_)
  have e := kv_q1_e e hw_6
  refine lv_if_eq (tgt := 28) hx hb dX3_weight_9 (by decide) (fun c_9 => ?_) (fun c_9 => ?_)
  · have e := e.trans (if_pos c_9)
    exact hb_28 0  _ _ _ hP hD hS (lv_sub hl [0] rfl) e
  · have e := e.trans (if_neg c_9)
    refine lv_iload_n hx hb dX3_weight_12 rfl (lv_at hl 2 rfl) ?_
    refine kv_calli (va_runS (As := [.int p1]) (rest := []) ⟨hx, hb, hml, hown, hts⟩ (c_X3_isProduct l D ci md 0 nw co ho ve la pr rg rp rm rc re ro rl cn tn tk sp ba p1 (kv_q1_n e hRz) H.size) (va_cwS 1 hts gX3_weight_X3_isProduct rfl rfl rfl (by decide +kernel) ⟨Nat.le_of_ble_eq_true rfl, Nat.le_of_ble_eq_true rfl⟩) (kv_preS hK hP hD) rfl rfl hl.1 rfl (lv_room (Nat.le_of_ble_eq_true rfl)) dX3_weight_13 ⟨Nat.le_of_ble_eq_true rfl, Nat.le_of_ble_eq_true rfl⟩) hD hS hA (fun r_13 u_13 H locs hw_13 hP hD hS => ?_)
    have e := kv_q1_e e hw_13
    refine lv_if_eq (tgt := 28) hx hb dX3_weight_16 (by decide) (fun c_16 => ?_) (fun c_16 => ?_)
    · have e := e.trans (if_pos c_16)
      exact hb_28 0  _ _ _ hP hD hS (lv_sub hl [0] rfl) e
    · have e := e.trans (if_neg c_16)
      refine lv_aload_n hx hb dX3_weight_19 rfl (lv_at hl 0 rfl) ?_
      refine lv_iload_n hx hb dX3_weight_20 rfl (lv_at hl 1 rfl) ?_
      refine lv_iload_n hx hb dX3_weight_21 rfl (lv_at hl 2 rfl) ?_
      refine kv_calli (va_runV (As := [.int p0, .int p1]) (rest := []) ⟨hx, hb, hml, hown, hts⟩ (c_X3_weighs l D ci md 0 nw co ho ve la pr rg rp rm rc re ro rl cn tn tk sp ba p0 p1 (kv_q1_n e hRz) H.size) (cwV 2 hts gX3_weight_X3_weighs rfl rfl rfl (by decide +kernel) ⟨Nat.le_of_ble_eq_true rfl, Nat.le_of_ble_eq_true rfl⟩) (kv_preV hK hP hD (r := (RX3, TX3, 19)) (q0 := 0) (k := 4) rfl rfl rfl) rfl rfl hl.1 rfl (lv_room (Nat.le_of_ble_eq_true rfl)) dX3_weight_22 ⟨Nat.le_of_ble_eq_true rfl, Nat.le_of_ble_eq_true rfl⟩) hD hS hA (fun r_22 u_22 H locs hw_22 hP hD hS => ?_)
      have e := kv_q1_e e hw_22
      refine lv_goto (tgt := 33) hx hb dX3_weight_25 (by decide) ?_
      rw [hQ]
      exact W.iret (v := r_22) hx hb hr (fun t ht hW => ⟨⟨r_22, (0), rfl, e, ⟨by rw [ht]; exact hP, by rw [hAe]; exact hD⟩⟩, hS.F ht⟩) hS.2.2 dX3_weight_33

def pf_X3_covered_94 (ho : Nat → Int32) (ve : Nat → Int32) (rp : Nat → Int32) (rm : Nat → Int32) (ro : Nat → Int32) (p0 : Int32) (p1 : Int32) (k_5 : Int32 → Int32 → Option (Int32)) (x4 : Int32) (z0 : Int32) (z1 : Int32)  : Option (Int32) :=
  kv_T (z0 ||| z1) (fun y_95 => k_5 y_95 (x4 + 1))
def pf_X3_covered_44 (ho : Nat → Int32) (ve : Nat → Int32) (rp : Nat → Int32) (rm : Nat → Int32) (ro : Nat → Int32) (p0 : Int32) (p1 : Int32) (k_5 : Int32 → Int32 → Option (Int32)) (x3 : Int32) (x4 : Int32) (z0 : Int32)  : Option (Int32) :=
  kv_G p0 12 (kv_T (rp p0.toNatClampNeg) (fun y_59 => kv_G ((4 * x4) + y_59) 32 (kv_T (ve ((4 * x4) + y_59).toNatClampNeg) (fun y_61 => if z0 = 0 then pf_X3_covered_94 ho ve rp rm ro p0 p1 k_5 x4 x3 0 else if y_61 ≤ 0 then pf_X3_covered_94 ho ve rp rm ro p0 p1 k_5 x4 x3 0 else kv_G p0 12 (kv_T (ro p0.toNatClampNeg) (fun y_82 => if y_82 < y_61 then pf_X3_covered_94 ho ve rp rm ro p0 p1 k_5 x4 x3 0 else pf_X3_covered_94 ho ve rp rm ro p0 p1 k_5 x4 x3 (1 <<< (x4 &&& 31))))))))
def pf_X3_covered_5b (ho : Nat → Int32) (ve : Nat → Int32) (rp : Nat → Int32) (rm : Nat → Int32) (ro : Nat → Int32) (p0 : Int32) (p1 : Int32)  (k_5 : Int32 → Int32 → Option (Int32)) (x3 : Int32) (x4 : Int32)  : Option (Int32) :=
  if 8 ≤ x4 then some (x3) else if x4 = p1 then pf_X3_covered_44 ho ve rp rm ro p0 p1 k_5 x3 x4 1 else kv_G p0 12 (kv_T (rm p0.toNatClampNeg) (fun y_23 => if y_23 = 1 then kv_G x4 8 (kv_T (ho x4.toNatClampNeg) (fun y_34 => if y_34 = p1 then pf_X3_covered_44 ho ve rp rm ro p0 p1 k_5 x3 x4 1 else pf_X3_covered_44 ho ve rp rm ro p0 p1 k_5 x3 x4 0)) else pf_X3_covered_44 ho ve rp rm ro p0 p1 k_5 x3 x4 0))
def pf_X3_covered_5 (ho : Nat → Int32) (ve : Nat → Int32) (rp : Nat → Int32) (rm : Nat → Int32) (ro : Nat → Int32) (p0 : Int32) (p1 : Int32)  : Nat → Int32 → Int32 → Option (Int32)
  | 0, _, _ => none
  | nn + 1, x3, x4 => pf_X3_covered_5b ho ve rp rm ro p0 p1  (pf_X3_covered_5 ho ve rp rm ro p0 p1  nn) x3 x4
def pf_X3_covered (ho : Nat → Int32) (ve : Nat → Int32) (rp : Nat → Int32) (rm : Nat → Int32) (ro : Nat → Int32) (p0 : Int32) (p1 : Int32)  : Option (Int32) :=
  pf_X3_covered_5 ho ve rp rm ro p0 p1 kv_F 0 0
abbrev rmX3_covered : Room := { frames := 0, cells := 0, slots := 0, locals := 0 }
set_option maxHeartbeats 4000000 in
set_option maxRecDepth 100000 in
theorem c_X3_covered (l : Launch) (D : va_G) (ci md : Nat → Nat) (th : Int32) (nw : Int32) (co : Nat → Int32) (ho : Nat → Int32) (ve : Nat → Int32) (la : Nat → Int32) (pr : Nat → Int32) (rg : Int32) (rp : Nat → Int32) (rm : Nat → Int32) (rc : Nat → Int32) (re : Nat → Int32) (ro : Nat → Int32) (rl : Nat → Int32) (cn : Nat → Int32) (tn : Nat → Int32) (tk : Nat → Int32) (sp : Nat → Int32) (ba : Int32) (p0 : Int32) (p1 : Int32)  (hRn : pf_X3_covered ho ve rp rm ro p0 p1 ≠ none) (sz : Nat) : Met l yX3_covered wsX3_covered rmX3_covered (va_Pc [.ref (md 0), .int p0, .int p1] (kv_pre D ci (kv_mw ci md th nw co ho ve la pr rg rp rm rc re ro rl cn tn tk sp ba) sz)) (va_Qi (fun (r : Int32) (u : Unit) => pf_X3_covered ho ve rp rm ro p0 p1 = some (r)) (fun u t => kv_post D (kv_mw ci md th nw co ho ve la pr rg rp rm rc re ro rl cn tn tk sp ba) sz (kv_mw ci md th nw co ho ve la pr rg rp rm rc re ro rl cn tn tk sp ba) t) (va_A (kv_mw ci md th nw co ho ve la pr rg rp rm rc re ro rl cn tn tk sp ba) sz)) 0 0 (va_A (kv_mw ci md th nw co ho ve la pr rg rp rm rc re ro rl cn tn tk sp ba) sz) := by
  refine Met.ofW (cc := cX3_covered) (maxL := 7) (ret := (some .int)) (by decide) rfl ?_
  intro p en s m args below meth c s₁ B hml hv
  obtain ⟨hv0, hsz, hP, hK, hD0⟩ := hv
  have hx := B.exec
  have hb := B.bytes
  have hr := B.returns
  have hts := atoms_spec (ws := wsX3_covered) B.pre
  have hown : s.vm.findClass RX3 = some m.cls := findClass_of_methodNamed B.named
  have hlocks := B.notSynchronized
  subst hsz
  have hD := hD0.self (sz := s.heap.size)
  generalize hAe : va_A (kv_mw ci md th nw co ho ve la pr rg rp rm rc re ro rl cn tn tk sp ba) s.heap.size = A at hD ⊢
  have hA : ∀ q : Nat, s.heap.size ≤ q → A q := fun q h => by rw [← hAe]; exact Or.inr h
  have hS : va_S A s.heap s.heap [] := va_S.rf
  have hP : va_P D vwCl (kv_mw ci md th nw co ho ve la pr rg rp rm rc re ro rl cn tn tk sp ba) s.heap := hP
  have hinRX3 : ∀ w ∈ u_ws RX3 TX3 19, w ∈ wsX3_covered := by decide +kernel
  generalize hRd : pf_X3_covered ho ve rp rm ro p0 p1 = Rz at hRn
  have hRz := hRn
  refine kv_Q (fun Q hQ => ?_)
  refine W.eq (show entryFrame m args 7 = _ from by rw [hv0, lg_entry_eq]) ?_
  have hl := lv_entry ([.ref (md 0), .int p0, .int p1]) (n := 7) (Nat.le_of_ble_eq_true rfl)
  generalize (lg_sl ([.ref (md 0), .int p0, .int p1]) ++ List.replicate (7 - (lg_sl ([.ref (md 0), .int p0, .int p1])).length) Slot.unset).toArray = ls at hl ⊢
  have hl : lv_has ls 7 [(0, .ref (md 0)), (1, .int p0), (2, .int p1)] := hl
  have e : Rz = pf_X3_covered ho ve rp rm ro p0 p1 := hRd.symm
  rw [pf_X3_covered] at e
  have hb_5 : ∀ (n_5 : Nat), ∀ (x3 : Int32) (x4 : Int32) (H : Heap) (locs : List Loc) (ls : Array Slot), va_P D vwCl (kv_mw ci md th nw co ho ve la pr rg rp rm rc re ro rl cn tn tk sp ba) H → va_D A (kv_mw ci md th nw co ho ve la pr rg rp rm rc re ro rl cn tn tk sp ba) → va_S A s.heap H locs → lv_has ls 7 [(0, .ref (md 0)), (1, .int p0), (2, .int p1), (3, .int x3), (4, .int x4)] → Rz = pf_X3_covered_5 ho ve rp rm ro p0 p1  n_5 x3 x4 → W p l en rmX3_covered s m args below meth c H locs 0 0 Q (F0 m 5 ls []) := by
    intro n_5
    induction n_5 with
    | zero =>
      intro x3 x4 H locs ls  _ _ _ _ e
      exact absurd e hRz
    | succ n_5 ih_5 =>
      have hb_94 : ∀ (x4 : Int32) (z0 : Int32) (z1 : Int32) (H : Heap) (locs : List Loc) (ls : Array Slot), va_P D vwCl (kv_mw ci md th nw co ho ve la pr rg rp rm rc re ro rl cn tn tk sp ba) H → va_D A (kv_mw ci md th nw co ho ve la pr rg rp rm rc re ro rl cn tn tk sp ba) → va_S A s.heap H locs → lv_has ls 7 [(0, .ref (md 0)), (1, .int p0), (2, .int p1), (4, .int x4)] → Rz = pf_X3_covered_94 ho ve rp rm ro p0 p1 (pf_X3_covered_5 ho ve rp rm ro p0 p1  n_5) x4 z0 z1 → W p l en rmX3_covered s m args below meth c H locs 0 0 Q (F0 m 94 ls [.int z1, .int z0]) := by
        intro x4 z0 z1 H locs ls  hP hD hS hl e
        rw [pf_X3_covered_94] at e
        refine lv_ior hx hb dX3_covered_94 ?_
        refine lv_topi (fun y_95 ey_95 => ?_)
        have e := kv_T_e e ey_95
        refine lv_istore_n (lv' := [(3, .int y_95), (0, .ref (md 0)), (1, .int p0), (2, .int p1), (4, .int x4)]) hx hb dX3_covered_95 rfl hl (by decide) rfl (fun ls hl => ?_)
        refine lv_iinc (v := x4 + 1) (lv' := [(4, .int (x4 + 1)), (3, .int y_95), (0, .ref (md 0)), (1, .int p0), (2, .int p1)]) hx hb dX3_covered_96 hl (k := 4) rfl rfl (by decide) rfl (fun ls hl => ?_)
        refine lv_goto (tgt := 5) hx hb dX3_covered_99 (by decide) ?_
        exact ih_5 y_95 (x4 + 1)  _ _ _ hP hD hS (lv_sub hl [2, 3, 4, 1, 0] rfl) e
      have hb_44 : ∀ (x3 : Int32) (x4 : Int32) (z0 : Int32) (H : Heap) (locs : List Loc) (ls : Array Slot), va_P D vwCl (kv_mw ci md th nw co ho ve la pr rg rp rm rc re ro rl cn tn tk sp ba) H → va_D A (kv_mw ci md th nw co ho ve la pr rg rp rm rc re ro rl cn tn tk sp ba) → va_S A s.heap H locs → lv_has ls 7 [(0, .ref (md 0)), (1, .int p0), (2, .int p1), (3, .int x3), (4, .int x4)] → Rz = pf_X3_covered_44 ho ve rp rm ro p0 p1 (pf_X3_covered_5 ho ve rp rm ro p0 p1  n_5) x3 x4 z0 → W p l en rmX3_covered s m args below meth c H locs 0 0 Q (F0 m 44 ls [.int z0]) := by
        intro x3 x4 z0 H locs ls  hP hD hS hl e
        rw [pf_X3_covered_44] at e
        refine lv_istore (lv' := [(5, .int z0), (0, .ref (md 0)), (1, .int p0), (2, .int p1), (3, .int x3), (4, .int x4)]) hx hb dX3_covered_44 hl (by decide) rfl (fun ls hl => ?_)
        refine lv_aload_n hx hb dX3_covered_46 rfl (lv_at hl 1 rfl) ?_
        refine va_get (D := D) (ci := 4) (v := .ref (md 3)) (C := RX3) (T := TX3) (N := 19) hx hb hts hinRX3 hown hK hP 0 rfl rfl 4 (by decide) (hts (.fieldLink RX3 16 "LicenceKeeperModel" "version" "[I") (by decide +kernel)) (fun _ h9 => h9) rfl dX3_covered_47 ?_
        refine lv_iconst (v := 4) hx hb dX3_covered_50 (by decide) ?_
        refine lv_iload hx hb dX3_covered_51 (lv_at hl 5 rfl) ?_
        refine lv_imul hx hb dX3_covered_53 ?_
        refine lv_aload_n hx hb dX3_covered_54 rfl (lv_at hl 1 rfl) ?_
        refine va_get (D := D) (ci := 4) (v := .ref (md 6)) (C := RX3) (T := TX3) (N := 19) hx hb hts hinRX3 hown hK hP 0 rfl rfl 8 (by decide) (hts (.fieldLink RX3 25 "LicenceKeeperModel" "product" "[I") (by decide +kernel)) (fun _ h9 => h9) rfl dX3_covered_55 ?_
        refine lv_iload_n hx hb dX3_covered_58 rfl (lv_at hl 2 rfl) ?_
        obtain ⟨hi_59, e⟩ := kv_G_e e hRz
        refine kv_iald hx hb hK hP 6 0 hi_59 dX3_covered_59 rfl rfl (fun y_59 ey_59 => ?_)
        have e := kv_T_e e ey_59
        refine lv_iadd hx hb dX3_covered_60 ?_
        obtain ⟨hi_61, e⟩ := kv_G_e e hRz
        refine kv_iald hx hb hK hP 3 0 hi_61 dX3_covered_61 rfl rfl (fun y_61 ey_61 => ?_)
        have e := kv_T_e e ey_61
        refine lv_istore (lv' := [(6, .int y_61), (5, .int z0), (0, .ref (md 0)), (1, .int p0), (2, .int p1), (3, .int x3), (4, .int x4)]) hx hb dX3_covered_62 hl (by decide) rfl (fun ls hl => ?_)
        refine lv_iload_n hx hb dX3_covered_64 rfl (lv_at hl 5 rfl) ?_
        refine lv_iload hx hb dX3_covered_65 (lv_at hl 1 rfl) ?_
        refine lv_if_eq (tgt := 93) hx hb dX3_covered_67 (by decide) (fun c_67 => ?_) (fun c_67 => ?_)
        · have e := e.trans (if_pos c_67)
          refine lv_iconst (v := 0) hx hb dX3_covered_93 (by decide) ?_
          exact hb_94 x4 x3 0  _ _ _ hP hD hS (lv_sub hl [2, 3, 4, 6] rfl) e
        · have e := e.trans (if_neg c_67)
          refine lv_iload hx hb dX3_covered_70 (lv_at hl 0 rfl) ?_
          refine lv_if_le (tgt := 93) hx hb dX3_covered_72 (by decide) (fun c_72 => ?_) (fun c_72 => ?_)
          · have e := e.trans (if_pos c_72)
            refine lv_iconst (v := 0) hx hb dX3_covered_93 (by decide) ?_
            exact hb_94 x4 x3 0  _ _ _ hP hD hS (lv_sub hl [2, 3, 4, 6] rfl) e
          · have e := e.trans (if_neg c_72)
            refine lv_iload hx hb dX3_covered_75 (lv_at hl 0 rfl) ?_
            refine lv_aload_n hx hb dX3_covered_77 rfl (lv_at hl 2 rfl) ?_
            refine va_get (D := D) (ci := 4) (v := .ref (md 10)) (C := RX3) (T := TX3) (N := 19) hx hb hts hinRX3 hown hK hP 0 rfl rfl 12 (by decide) (hts (.fieldLink RX3 37 "LicenceKeeperModel" "of" "[I") (by decide +kernel)) (fun _ h9 => h9) rfl dX3_covered_78 ?_
            refine lv_iload_n hx hb dX3_covered_81 rfl (lv_at hl 3 rfl) ?_
            obtain ⟨hi_82, e⟩ := kv_G_e e hRz
            refine kv_iald hx hb hK hP 10 0 hi_82 dX3_covered_82 rfl rfl (fun y_82 ey_82 => ?_)
            have e := kv_T_e e ey_82
            refine lv_icmp_gt (tgt := 93) hx hb dX3_covered_83 (by decide) (fun c_83 => ?_) (fun c_83 => ?_)
            · have e := e.trans (if_pos c_83)
              refine lv_iconst (v := 0) hx hb dX3_covered_93 (by decide) ?_
              exact hb_94 x4 x3 0  _ _ _ hP hD hS (lv_sub hl [2, 3, 4, 6] rfl) e
            · have e := e.trans (if_neg c_83)
              refine lv_iconst (v := 1) hx hb dX3_covered_86 (by decide) ?_
              refine lv_iload hx hb dX3_covered_87 (lv_at hl 6 rfl) ?_
              refine lv_ishl hx hb dX3_covered_89 ?_
              refine lv_goto (tgt := 94) hx hb dX3_covered_90 (by decide) ?_
              exact hb_94 x4 x3 (1 <<< (x4 &&& 31))  _ _ _ hP hD hS (lv_sub hl [2, 3, 4, 6] rfl) e
      intro x3 x4 H locs ls  hP hD hS hl e
      rw [pf_X3_covered_5, pf_X3_covered_5b] at e
      refine lv_iload hx hb dX3_covered_5 (lv_at hl 4 rfl) ?_
      refine lv_bipush (v := 8) hx hb dX3_covered_7 (by decide) ?_
      refine lv_icmp_ge (tgt := 102) hx hb dX3_covered_9 (by decide) (fun c_9 => ?_) (fun c_9 => ?_)
      · have e := e.trans (if_pos c_9)
        refine lv_iload_n hx hb dX3_covered_102 rfl (lv_at hl 3 rfl) ?_
        rw [hQ]
        exact W.iret (v := x3) hx hb hr (fun t ht hW => ⟨⟨x3, (), rfl, e, ⟨by rw [ht]; exact hP, by rw [hAe]; exact hD⟩⟩, hS.F ht⟩) hS.2.2 dX3_covered_103
      · have e := e.trans (if_neg c_9)
        refine lv_iload hx hb dX3_covered_12 (lv_at hl 4 rfl) ?_
        refine lv_iload_n hx hb dX3_covered_14 rfl (lv_at hl 2 rfl) ?_
        refine lv_icmp_eq (tgt := 39) hx hb dX3_covered_15 (by decide) (fun c_15 => ?_) (fun c_15 => ?_)
        · have e := e.trans (if_pos c_15)
          refine lv_iconst (v := 1) hx hb dX3_covered_39 (by decide) ?_
          refine lv_goto (tgt := 44) hx hb dX3_covered_40 (by decide) ?_
          exact hb_44 x3 x4 1  _ _ _ hP hD hS (lv_sub hl [0, 1, 2, 3, 4] rfl) e
        · have e := e.trans (if_neg c_15)
          refine lv_aload_n hx hb dX3_covered_18 rfl (lv_at hl 0 rfl) ?_
          refine va_get (D := D) (ci := 4) (v := .ref (md 7)) (C := RX3) (T := TX3) (N := 19) hx hb hts hinRX3 hown hK hP 0 rfl rfl 9 (by decide) (hts (.fieldLink RX3 28 "LicenceKeeperModel" "measure" "[I") (by decide +kernel)) (fun _ h9 => h9) rfl dX3_covered_19 ?_
          refine lv_iload_n hx hb dX3_covered_22 rfl (lv_at hl 1 rfl) ?_
          obtain ⟨hi_23, e⟩ := kv_G_e e hRz
          refine kv_iald hx hb hK hP 7 0 hi_23 dX3_covered_23 rfl rfl (fun y_23 ey_23 => ?_)
          have e := kv_T_e e ey_23
          refine lv_iconst (v := 1) hx hb dX3_covered_24 (by decide) ?_
          refine lv_icmp_ne (tgt := 43) hx hb dX3_covered_25 (by decide) (fun c_25 => ?_) (fun c_25 => ?_)
          · have e := e.trans (if_neg c_25)
            refine lv_iconst (v := 0) hx hb dX3_covered_43 (by decide) ?_
            exact hb_44 x3 x4 0  _ _ _ hP hD hS (lv_sub hl [0, 1, 2, 3, 4] rfl) e
          · have e := e.trans (if_pos c_25)
            refine lv_aload_n hx hb dX3_covered_28 rfl (lv_at hl 0 rfl) ?_
            refine va_get (D := D) (ci := 4) (v := .ref (md 2)) (C := RX3) (T := TX3) (N := 19) hx hb hts hinRX3 hown hK hP 0 rfl rfl 3 (by decide) (hts (.fieldLink RX3 13 "LicenceKeeperModel" "host" "[I") (by decide +kernel)) (fun _ h9 => h9) rfl dX3_covered_29 ?_
            refine lv_iload hx hb dX3_covered_32 (lv_at hl 4 rfl) ?_
            obtain ⟨hi_34, e⟩ := kv_G_e e hRz
            refine kv_iald hx hb hK hP 2 0 hi_34 dX3_covered_34 rfl rfl (fun y_34 ey_34 => ?_)
            have e := kv_T_e e ey_34
            refine lv_iload_n hx hb dX3_covered_35 rfl (lv_at hl 2 rfl) ?_
            refine lv_icmp_ne (tgt := 43) hx hb dX3_covered_36 (by decide) (fun c_36 => ?_) (fun c_36 => ?_)
            · have e := e.trans (if_neg c_36)
              refine lv_iconst (v := 0) hx hb dX3_covered_43 (by decide) ?_
              exact hb_44 x3 x4 0  _ _ _ hP hD hS (lv_sub hl [0, 1, 2, 3, 4] rfl) e
            · have e := e.trans (if_pos c_36)
              refine lv_iconst (v := 1) hx hb dX3_covered_39 (by decide) ?_
              refine lv_goto (tgt := 44) hx hb dX3_covered_40 (by decide) ?_
              exact hb_44 x3 x4 1  _ _ _ hP hD hS (lv_sub hl [0, 1, 2, 3, 4] rfl) e
  refine lv_iconst (v := 0) hx hb dX3_covered_0 (by decide) ?_
  refine lv_istore_n (lv' := [(3, .int 0), (0, .ref (md 0)), (1, .int p0), (2, .int p1)]) hx hb dX3_covered_1 rfl hl (by decide) rfl (fun ls hl => ?_)
  refine lv_iconst (v := 0) hx hb dX3_covered_2 (by decide) ?_
  refine lv_istore (lv' := [(4, .int 0), (3, .int 0), (0, .ref (md 0)), (1, .int p0), (2, .int p1)]) hx hb dX3_covered_3 hl (by decide) rfl (fun ls hl => ?_)
  exact hb_5 kv_F 0 0  _ _ _ hP hD hS (lv_sub hl [2, 3, 4, 1, 0] rfl) e

def pf_X3_covers_29 (ho : Nat → Int32) (ve : Nat → Int32) (rg : Int32) (rp : Nat → Int32) (rm : Nat → Int32) (ro : Nat → Int32) (p0 : Int32) (p1 : Int32)   (th : Int32) : Option (Int32 × Int32) :=
  kv_q2 (pf_X3_fails 1 th) (fun r_31 u_31 => some (r_31, u_31))
def pf_X3_covers (ho : Nat → Int32) (ve : Nat → Int32) (rg : Int32) (rp : Nat → Int32) (rm : Nat → Int32) (ro : Nat → Int32) (p0 : Int32) (p1 : Int32) (th : Int32) : Option (Int32 × Int32) :=
  kv_q1 (pf_X3_isRight rg p0) (fun r_7 => if r_7 = 0 then pf_X3_covers_29 ho ve rg rp rm ro p0 p1 0 else kv_q1 (pf_X3_isMachine p1) (fun r_14 => if r_14 = 0 then pf_X3_covers_29 ho ve rg rp rm ro p0 p1 0 else kv_q1 (pf_X3_covered ho ve rp rm ro p0 p1) (fun r_23 => some (r_23, 0))))
abbrev rmX3_covers : Room := { frames := 2, cells := 0, slots := 0, locals := 43 }
set_option maxHeartbeats 4000000 in
set_option maxRecDepth 100000 in
theorem c_X3_covers (l : Launch) (D : va_G) (ci md : Nat → Nat) (th : Int32) (nw : Int32) (co : Nat → Int32) (ho : Nat → Int32) (ve : Nat → Int32) (la : Nat → Int32) (pr : Nat → Int32) (rg : Int32) (rp : Nat → Int32) (rm : Nat → Int32) (rc : Nat → Int32) (re : Nat → Int32) (ro : Nat → Int32) (rl : Nat → Int32) (cn : Nat → Int32) (tn : Nat → Int32) (tk : Nat → Int32) (sp : Nat → Int32) (ba : Int32) (p0 : Int32) (p1 : Int32)  (hRn : pf_X3_covers ho ve rg rp rm ro p0 p1 th ≠ none) (sz : Nat) : Met l yX3_covers wsX3_covers rmX3_covers (va_Pc [.ref (md 0), .int p0, .int p1] (kv_pre D ci (kv_mw ci md th nw co ho ve la pr rg rp rm rc re ro rl cn tn tk sp ba) sz)) (va_Qi (fun (r : Int32) (u : Int32) => pf_X3_covers ho ve rg rp rm ro p0 p1 th = some (r, u)) (fun u t => kv_post D (kv_mw ci md th nw co ho ve la pr rg rp rm rc re ro rl cn tn tk sp ba) sz (kv_mw ci md u nw co ho ve la pr rg rp rm rc re ro rl cn tn tk sp ba) t) (va_A (kv_mw ci md th nw co ho ve la pr rg rp rm rc re ro rl cn tn tk sp ba) sz)) 0 0 (va_A (kv_mw ci md th nw co ho ve la pr rg rp rm rc re ro rl cn tn tk sp ba) sz) := by
  refine Met.ofW (cc := cX3_covers) (maxL := 3) (ret := (some .int)) (by decide) rfl ?_
  intro p en s m args below meth c s₁ B hml hv
  obtain ⟨hv0, hsz, hP, hK, hD0⟩ := hv
  have hx := B.exec
  have hb := B.bytes
  have hr := B.returns
  have hts := atoms_spec (ws := wsX3_covers) B.pre
  have hown : s.vm.findClass RX3 = some m.cls := findClass_of_methodNamed B.named
  have hlocks := B.notSynchronized
  subst hsz
  have hD := hD0.self (sz := s.heap.size)
  generalize hAe : va_A (kv_mw ci md th nw co ho ve la pr rg rp rm rc re ro rl cn tn tk sp ba) s.heap.size = A at hD ⊢
  have hA : ∀ q : Nat, s.heap.size ≤ q → A q := fun q h => by rw [← hAe]; exact Or.inr h
  have hS : va_S A s.heap s.heap [] := va_S.rf
  have hP : va_P D vwCl (kv_mw ci md th nw co ho ve la pr rg rp rm rc re ro rl cn tn tk sp ba) s.heap := hP
  have hinRX3 : ∀ w ∈ u_ws RX3 TX3 19, w ∈ wsX3_covers := by decide +kernel
  generalize hRd : pf_X3_covers ho ve rg rp rm ro p0 p1 th = Rz at hRn
  have hRz := hRn
  refine kv_Q (fun Q hQ => ?_)
  refine W.eq (show entryFrame m args 3 = _ from by rw [hv0, lg_entry_eq]) ?_
  have hl := lv_entry ([.ref (md 0), .int p0, .int p1]) (n := 3) (Nat.le_of_ble_eq_true rfl)
  generalize (lg_sl ([.ref (md 0), .int p0, .int p1]) ++ List.replicate (3 - (lg_sl ([.ref (md 0), .int p0, .int p1])).length) Slot.unset).toArray = ls at hl ⊢
  have hl : lv_has ls 3 [(0, .ref (md 0)), (1, .int p0), (2, .int p1)] := hl
  have e : Rz = pf_X3_covers ho ve rg rp rm ro p0 p1 th := hRd.symm
  rw [pf_X3_covers] at e
  have hb_29 : ∀ (th : Int32) (H : Heap) (locs : List Loc) (ls : Array Slot), va_P D vwCl (kv_mw ci md th nw co ho ve la pr rg rp rm rc re ro rl cn tn tk sp ba) H → va_D A (kv_mw ci md th nw co ho ve la pr rg rp rm rc re ro rl cn tn tk sp ba) → va_S A s.heap H locs → lv_has ls 3 [(0, .ref (md 0))] → Rz = pf_X3_covers_29 ho ve rg rp rm ro p0 p1  th → W p l en rmX3_covers s m args below meth c H locs 0 0 Q (F0 m 29 ls []) := by
    intro th H locs ls  hP hD hS hl e
    rw [pf_X3_covers_29] at e
    refine lv_aload_n hx hb dX3_covers_29 rfl (lv_at hl 0 rfl) ?_
    refine lv_iconst (v := 1) hx hb dX3_covers_30 (by decide) ?_
    refine kv_calli (va_runV (As := [.int 1]) (rest := []) ⟨hx, hb, hml, hown, hts⟩ (c_X3_fails l D ci md th nw co ho ve la pr rg rp rm rc re ro rl cn tn tk sp ba 1 (kv_q2_n e hRz) H.size) (cwV 1 hts gX3_covers_X3_fails rfl rfl rfl (by decide +kernel) ⟨Nat.le_of_ble_eq_true rfl, Nat.le_of_ble_eq_true rfl⟩) (kv_preV hK hP hD (r := (RX3, TX3, 19)) (q0 := 0) (k := 4) rfl rfl rfl) rfl rfl hl.1 rfl (lv_room (Nat.le_of_ble_eq_true rfl)) dX3_covers_31 ⟨Nat.le_of_ble_eq_true rfl, Nat.le_of_ble_eq_true rfl⟩) hD hS hA (fun r_31 u_31 H locs hw_31 hP hD hS => ?_)
    have e := kv_q2_e e hw_31
    have hP : va_P D vwCl (kv_mw ci md u_31 nw co ho ve la pr rg rp rm rc re ro rl cn tn tk sp ba) H := hP
    have hD : va_D A (kv_mw ci md u_31 nw co ho ve la pr rg rp rm rc re ro rl cn tn tk sp ba) := hD
    rw [hQ]
    exact W.iret (v := r_31) hx hb hr (fun t ht hW => ⟨⟨r_31, (u_31), rfl, e, ⟨by rw [ht]; exact hP, by rw [hAe]; exact hD⟩⟩, hS.F ht⟩) hS.2.2 dX3_covers_34
  refine lv_aload_n hx hb dX3_covers_0 rfl (lv_at hl 0 rfl) ?_
  refine lv_iconst (v := 0) hx hb dX3_covers_1 (by decide) ?_
  refine va_put (D := D) (ci := 4) (v := .int 0) (ty := .int) (C := RX3) (T := TX3) (N := 19) hx hb hts hinRX3 tyX3 tyX3_ok nmX3 hown hK hP hD hS 0 rfl rfl 0 (by decide) (hts (.fieldLink RX3 56 "LicenceKeeperModel" "thrown" "I") (by decide +kernel)) (fun _ h9 => h9) rfl (by decide +kernel) rfl rfl (Nat.le_of_ble_eq_true rfl) dX3_covers_2 (fun H locs hP hD hS => ?_)
  have hP : va_P D vwCl (kv_mw ci md 0 nw co ho ve la pr rg rp rm rc re ro rl cn tn tk sp ba) H := hP
  have hD : va_D A (kv_mw ci md 0 nw co ho ve la pr rg rp rm rc re ro rl cn tn tk sp ba) := hD
  refine lv_aload_n hx hb dX3_covers_5 rfl (lv_at hl 0 rfl) ?_
  refine lv_iload_n hx hb dX3_covers_6 rfl (lv_at hl 1 rfl) ?_
  refine kv_calli (va_runV (As := [.int p0]) (rest := []) ⟨hx, hb, hml, hown, hts⟩ (c_X3_isRight l D ci md 0 nw co ho ve la pr rg rp rm rc re ro rl cn tn tk sp ba p0 (kv_q1_n e hRz) H.size) (cwV 1 hts gX3_covers_X3_isRight rfl rfl rfl (by decide +kernel) ⟨Nat.le_of_ble_eq_true rfl, Nat.le_of_ble_eq_true rfl⟩) (kv_preV hK hP hD (r := (RX3, TX3, 19)) (q0 := 0) (k := 4) rfl rfl rfl) rfl rfl hl.1 rfl (lv_room (Nat.le_of_ble_eq_true rfl)) dX3_covers_7 ⟨Nat.le_of_ble_eq_true rfl, Nat.le_of_ble_eq_true rfl⟩) hD hS hA (fun r_7 u_7 H locs hw_7 hP hD hS => ?_)
  have e := kv_q1_e e hw_7
  refine lv_if_eq (tgt := 29) hx hb dX3_covers_10 (by decide) (fun c_10 => ?_) (fun c_10 => ?_)
  · have e := e.trans (if_pos c_10)
    exact hb_29 0  _ _ _ hP hD hS (lv_sub hl [0] rfl) e
  · have e := e.trans (if_neg c_10)
    refine lv_iload_n hx hb dX3_covers_13 rfl (lv_at hl 2 rfl) ?_
    refine kv_calli (va_runS (As := [.int p1]) (rest := []) ⟨hx, hb, hml, hown, hts⟩ (c_X3_isMachine l D ci md 0 nw co ho ve la pr rg rp rm rc re ro rl cn tn tk sp ba p1 (kv_q1_n e hRz) H.size) (va_cwS 1 hts gX3_covers_X3_isMachine rfl rfl rfl (by decide +kernel) ⟨Nat.le_of_ble_eq_true rfl, Nat.le_of_ble_eq_true rfl⟩) (kv_preS hK hP hD) rfl rfl hl.1 rfl (lv_room (Nat.le_of_ble_eq_true rfl)) dX3_covers_14 ⟨Nat.le_of_ble_eq_true rfl, Nat.le_of_ble_eq_true rfl⟩) hD hS hA (fun r_14 u_14 H locs hw_14 hP hD hS => ?_)
    have e := kv_q1_e e hw_14
    refine lv_if_eq (tgt := 29) hx hb dX3_covers_17 (by decide) (fun c_17 => ?_) (fun c_17 => ?_)
    · have e := e.trans (if_pos c_17)
      exact hb_29 0  _ _ _ hP hD hS (lv_sub hl [0] rfl) e
    · have e := e.trans (if_neg c_17)
      refine lv_aload_n hx hb dX3_covers_20 rfl (lv_at hl 0 rfl) ?_
      refine lv_iload_n hx hb dX3_covers_21 rfl (lv_at hl 1 rfl) ?_
      refine lv_iload_n hx hb dX3_covers_22 rfl (lv_at hl 2 rfl) ?_
      refine kv_calli (va_runV (As := [.int p0, .int p1]) (rest := []) ⟨hx, hb, hml, hown, hts⟩ (c_X3_covered l D ci md 0 nw co ho ve la pr rg rp rm rc re ro rl cn tn tk sp ba p0 p1 (kv_q1_n e hRz) H.size) (cwV 2 hts gX3_covers_X3_covered rfl rfl rfl (by decide +kernel) ⟨Nat.le_of_ble_eq_true rfl, Nat.le_of_ble_eq_true rfl⟩) (kv_preV hK hP hD (r := (RX3, TX3, 19)) (q0 := 0) (k := 4) rfl rfl rfl) rfl rfl hl.1 rfl (lv_room (Nat.le_of_ble_eq_true rfl)) dX3_covers_23 ⟨Nat.le_of_ble_eq_true rfl, Nat.le_of_ble_eq_true rfl⟩) hD hS hA (fun r_23 u_23 H locs hw_23 hP hD hS => ?_)
      have e := kv_q1_e e hw_23
      refine lv_goto (tgt := 34) hx hb dX3_covers_26 (by decide) ?_
      rw [hQ]
      exact W.iret (v := r_23) hx hb hr (fun t ht hW => ⟨⟨r_23, (0), rfl, e, ⟨by rw [ht]; exact hP, by rw [hAe]; exact hD⟩⟩, hS.F ht⟩) hS.2.2 dX3_covers_34
