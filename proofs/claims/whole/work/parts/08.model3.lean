def pf_X3_spreads_59 (co : Nat → Int32) (ho : Nat → Int32) (ve : Nat → Int32) (rp : Nat → Int32) (rm : Nat → Int32) (ro : Nat → Int32) (p0 : Int32) (k_2 : Int32 → (Nat → Int32) → (Nat → Int32) → Option ((Nat → Int32) × (Nat → Int32))) (x2 : Int32) (x3 : Int32) (z0 : Int32) (tk : Nat → Int32) (sp : Nat → Int32) : Option ((Nat → Int32) × (Nat → Int32)) :=
  kv_G (x2 - (1 <<< (x3 &&& 31))) 256 (kv_T (tk (x2 - (1 <<< (x3 &&& 31))).toNatClampNeg) (fun y_75 => kv_G x2 256 (kv_T (upd tk x2.toNatClampNeg (y_75 + z0)) (fun g_79 => kv_G (x2 - (1 <<< (x3 &&& 31))) 256 (kv_T (sp (x2 - (1 <<< (x3 &&& 31))).toNatClampNeg) (fun y_94 => kv_q1 (pf_X3_covered ho ve rp rm ro p0 x3) (fun r_98 => kv_G x2 256 (kv_T (upd sp x2.toNatClampNeg (y_94 ||| r_98)) (fun g_102 => k_2 (x2 + 1) g_79 g_102)))))))))
def pf_X3_spreads_11b (co : Nat → Int32) (ho : Nat → Int32) (ve : Nat → Int32) (rp : Nat → Int32) (rm : Nat → Int32) (ro : Nat → Int32) (p0 : Int32) (k_2 : Int32 → (Nat → Int32) → (Nat → Int32) → Option ((Nat → Int32) × (Nat → Int32))) (k_11 : Int32 → Int32 → (Nat → Int32) → (Nat → Int32) → Option ((Nat → Int32) × (Nat → Int32))) (x2 : Int32) (x3 : Int32) (tk : Nat → Int32) (sp : Nat → Int32) : Option ((Nat → Int32) × (Nat → Int32)) :=
  if ((x2 >>> (x3 &&& 31)) &&& 1) = 0 then k_11 x2 (x3 + 1) tk sp else kv_G p0 12 (kv_T (rm p0.toNatClampNeg) (fun y_30 => if y_30 = 1 then kv_G x3 8 (kv_T (co x3.toNatClampNeg) (fun y_44 => if 4 ≤ y_44 then kv_G x3 8 (kv_T (co x3.toNatClampNeg) (fun y_58 => pf_X3_spreads_59 co ho ve rp rm ro p0 k_2 x2 x3 y_58 tk sp)) else pf_X3_spreads_59 co ho ve rp rm ro p0 k_2 x2 x3 4 tk sp)) else pf_X3_spreads_59 co ho ve rp rm ro p0 k_2 x2 x3 1 tk sp))
def pf_X3_spreads_11 (co : Nat → Int32) (ho : Nat → Int32) (ve : Nat → Int32) (rp : Nat → Int32) (rm : Nat → Int32) (ro : Nat → Int32) (p0 : Int32) (k_2 : Int32 → (Nat → Int32) → (Nat → Int32) → Option ((Nat → Int32) × (Nat → Int32))) : Nat → Int32 → Int32 → (Nat → Int32) → (Nat → Int32) → Option ((Nat → Int32) × (Nat → Int32))
  | 0, _, _, _, _ => none
  | nn + 1, x2, x3, tk, sp => pf_X3_spreads_11b co ho ve rp rm ro p0 k_2 (pf_X3_spreads_11 co ho ve rp rm ro p0 k_2 nn) x2 x3 tk sp
def pf_X3_spreads_2b (co : Nat → Int32) (ho : Nat → Int32) (ve : Nat → Int32) (rp : Nat → Int32) (rm : Nat → Int32) (ro : Nat → Int32) (p0 : Int32)  (k_2 : Int32 → (Nat → Int32) → (Nat → Int32) → Option ((Nat → Int32) × (Nat → Int32))) (x2 : Int32) (tk : Nat → Int32) (sp : Nat → Int32) : Option ((Nat → Int32) × (Nat → Int32)) :=
  if 256 ≤ x2 then some (tk, sp) else pf_X3_spreads_11 co ho ve rp rm ro p0 k_2 kv_F x2 0 tk sp
def pf_X3_spreads_2 (co : Nat → Int32) (ho : Nat → Int32) (ve : Nat → Int32) (rp : Nat → Int32) (rm : Nat → Int32) (ro : Nat → Int32) (p0 : Int32)  : Nat → Int32 → (Nat → Int32) → (Nat → Int32) → Option ((Nat → Int32) × (Nat → Int32))
  | 0, _, _, _ => none
  | nn + 1, x2, tk, sp => pf_X3_spreads_2b co ho ve rp rm ro p0  (pf_X3_spreads_2 co ho ve rp rm ro p0  nn) x2 tk sp
def pf_X3_spreads (co : Nat → Int32) (ho : Nat → Int32) (ve : Nat → Int32) (rp : Nat → Int32) (rm : Nat → Int32) (ro : Nat → Int32) (p0 : Int32) (tk : Nat → Int32) (sp : Nat → Int32) : Option ((Nat → Int32) × (Nat → Int32)) :=
  pf_X3_spreads_2 co ho ve rp rm ro p0 kv_F 1 tk sp
abbrev rmX3_spreads : Room := { frames := 1, cells := 0, slots := 0, locals := 26 }
set_option maxHeartbeats 4000000 in
set_option maxRecDepth 100000 in
theorem c_X3_spreads (l : Launch) (D : va_G) (ci md : Nat → Nat) (th : Int32) (nw : Int32) (co : Nat → Int32) (ho : Nat → Int32) (ve : Nat → Int32) (la : Nat → Int32) (pr : Nat → Int32) (rg : Int32) (rp : Nat → Int32) (rm : Nat → Int32) (rc : Nat → Int32) (re : Nat → Int32) (ro : Nat → Int32) (rl : Nat → Int32) (cn : Nat → Int32) (tn : Nat → Int32) (tk : Nat → Int32) (sp : Nat → Int32) (ba : Int32) (p0 : Int32)  (hRn : pf_X3_spreads co ho ve rp rm ro p0 tk sp ≠ none) (sz : Nat) : Met l yX3_spreads wsX3_spreads rmX3_spreads (va_Pc [.ref (md 0), .int p0] (kv_pre D ci (kv_mw ci md th nw co ho ve la pr rg rp rm rc re ro rl cn tn tk sp ba) sz)) (va_Qv (fun (u : (Nat → Int32) × (Nat → Int32)) => pf_X3_spreads co ho ve rp rm ro p0 tk sp = some u) (fun u t => kv_post D (kv_mw ci md th nw co ho ve la pr rg rp rm rc re ro rl cn tn tk sp ba) sz (kv_mw ci md th nw co ho ve la pr rg rp rm rc re ro rl cn tn u.1 u.2 ba) t) (va_A (kv_mw ci md th nw co ho ve la pr rg rp rm rc re ro rl cn tn tk sp ba) sz)) 0 0 (va_A (kv_mw ci md th nw co ho ve la pr rg rp rm rc re ro rl cn tn tk sp ba) sz) := by
  refine Met.ofW (cc := cX3_spreads) (maxL := 5) (ret := none) (by decide) rfl ?_
  intro p en s m args below meth c s₁ B hml hv
  obtain ⟨hv0, hsz, hP, hK, hD0⟩ := hv
  have hx := B.exec
  have hb := B.bytes
  have hr := B.returns
  have hts := atoms_spec (ws := wsX3_spreads) B.pre
  have hown : s.vm.findClass RX3 = some m.cls := findClass_of_methodNamed B.named
  have hlocks := B.notSynchronized
  subst hsz
  have hD := hD0.self (sz := s.heap.size)
  generalize hAe : va_A (kv_mw ci md th nw co ho ve la pr rg rp rm rc re ro rl cn tn tk sp ba) s.heap.size = A at hD ⊢
  have hA : ∀ q : Nat, s.heap.size ≤ q → A q := fun q h => by rw [← hAe]; exact Or.inr h
  have hS : va_S A s.heap s.heap [] := va_S.rf
  have hP : va_P D vwCl (kv_mw ci md th nw co ho ve la pr rg rp rm rc re ro rl cn tn tk sp ba) s.heap := hP
  have hinRX3 : ∀ w ∈ u_ws RX3 TX3 19, w ∈ wsX3_spreads := by decide +kernel
  generalize hRd : pf_X3_spreads co ho ve rp rm ro p0 tk sp = Rz at hRn
  have hRz := hRn
  refine kv_Q (fun Q hQ => ?_)
  refine W.eq (show entryFrame m args 5 = _ from by rw [hv0, lg_entry_eq]) ?_
  have hl := lv_entry ([.ref (md 0), .int p0]) (n := 5) (Nat.le_of_ble_eq_true rfl)
  generalize (lg_sl ([.ref (md 0), .int p0]) ++ List.replicate (5 - (lg_sl ([.ref (md 0), .int p0])).length) Slot.unset).toArray = ls at hl ⊢
  have hl : lv_has ls 5 [(0, .ref (md 0)), (1, .int p0)] := hl
  have e : Rz = pf_X3_spreads co ho ve rp rm ro p0 tk sp := hRd.symm
  rw [pf_X3_spreads] at e
  have hb_2 : ∀ (n_2 : Nat), ∀ (x2 : Int32) (tk : Nat → Int32) (sp : Nat → Int32) (H : Heap) (locs : List Loc) (ls : Array Slot), va_P D vwCl (kv_mw ci md th nw co ho ve la pr rg rp rm rc re ro rl cn tn tk sp ba) H → va_D A (kv_mw ci md th nw co ho ve la pr rg rp rm rc re ro rl cn tn tk sp ba) → va_S A s.heap H locs → lv_has ls 5 [(0, .ref (md 0)), (1, .int p0), (2, .int x2)] → Rz = pf_X3_spreads_2 co ho ve rp rm ro p0  n_2 x2 tk sp → W p l en rmX3_spreads s m args below meth c H locs 0 0 Q (F0 m 2 ls []) := by
    intro n_2
    induction n_2 with
    | zero =>
      intro x2 tk sp H locs ls  _ _ _ _ e
      exact absurd e hRz
    | succ n_2 ih_2 =>
      have hb_59 : ∀ (x2 : Int32) (x3 : Int32) (z0 : Int32) (tk : Nat → Int32) (sp : Nat → Int32) (H : Heap) (locs : List Loc) (ls : Array Slot), va_P D vwCl (kv_mw ci md th nw co ho ve la pr rg rp rm rc re ro rl cn tn tk sp ba) H → va_D A (kv_mw ci md th nw co ho ve la pr rg rp rm rc re ro rl cn tn tk sp ba) → va_S A s.heap H locs → lv_has ls 5 [(0, .ref (md 0)), (1, .int p0), (2, .int x2), (3, .int x3)] → Rz = pf_X3_spreads_59 co ho ve rp rm ro p0 (pf_X3_spreads_2 co ho ve rp rm ro p0  n_2) x2 x3 z0 tk sp → W p l en rmX3_spreads s m args below meth c H locs 0 0 Q (F0 m 59 ls [.int z0]) := by
        intro x2 x3 z0 tk sp H locs ls  hP hD hS hl e
        rw [pf_X3_spreads_59] at e
        refine lv_istore (lv' := [(4, .int z0), (0, .ref (md 0)), (1, .int p0), (2, .int x2), (3, .int x3)]) hx hb dX3_spreads_59 hl (by decide) rfl (fun ls hl => ?_)
        refine lv_aload_n hx hb dX3_spreads_61 rfl (lv_at hl 1 rfl) ?_
        refine va_get (D := D) (ci := 4) (v := .ref (md 14)) (C := RX3) (T := TX3) (N := 19) hx hb hts hinRX3 hown hK hP 0 rfl rfl 16 (by decide) (hts (.fieldLink RX3 50 "LicenceKeeperModel" "takes" "[I") (by decide +kernel)) (fun _ h9 => h9) rfl dX3_spreads_62 ?_
        refine lv_iload_n hx hb dX3_spreads_65 rfl (lv_at hl 3 rfl) ?_
        refine lv_aload_n hx hb dX3_spreads_66 rfl (lv_at hl 1 rfl) ?_
        refine va_get (D := D) (ci := 4) (v := .ref (md 14)) (C := RX3) (T := TX3) (N := 19) hx hb hts hinRX3 hown hK hP 0 rfl rfl 16 (by decide) (hts (.fieldLink RX3 50 "LicenceKeeperModel" "takes" "[I") (by decide +kernel)) (fun _ h9 => h9) rfl dX3_spreads_67 ?_
        refine lv_iload_n hx hb dX3_spreads_70 rfl (lv_at hl 3 rfl) ?_
        refine lv_iconst (v := 1) hx hb dX3_spreads_71 (by decide) ?_
        refine lv_iload_n hx hb dX3_spreads_72 rfl (lv_at hl 4 rfl) ?_
        refine lv_ishl hx hb dX3_spreads_73 ?_
        refine lv_isub hx hb dX3_spreads_74 ?_
        obtain ⟨hi_75, e⟩ := kv_G_e e hRz
        refine kv_iald hx hb hK hP 14 0 hi_75 dX3_spreads_75 rfl rfl (fun y_75 ey_75 => ?_)
        have e := kv_T_e e ey_75
        refine lv_iload hx hb dX3_spreads_76 (lv_at hl 0 rfl) ?_
        refine lv_iadd hx hb dX3_spreads_78 ?_
        obtain ⟨hi_79, e⟩ := kv_G_e e hRz
        refine kv_iast hx hb hK hP hD hS 14 0 (fun g_79 => (kv_mw ci md th nw co ho ve la pr rg rp rm rc re ro rl cn tn g_79 sp ba)) hi_79 dX3_spreads_79 rfl rfl (fun _ => rfl) (fun g_79 H locs eg_79 hP hD hS => ?_)
        have e := kv_T_e e eg_79
        refine lv_aload_n hx hb dX3_spreads_80 rfl (lv_at hl 1 rfl) ?_
        refine va_get (D := D) (ci := 4) (v := .ref (md 15)) (C := RX3) (T := TX3) (N := 19) hx hb hts hinRX3 hown hK hP 0 rfl rfl 17 (by decide) (hts (.fieldLink RX3 53 "LicenceKeeperModel" "spread" "[I") (by decide +kernel)) (fun _ h9 => h9) rfl dX3_spreads_81 ?_
        refine lv_iload_n hx hb dX3_spreads_84 rfl (lv_at hl 3 rfl) ?_
        refine lv_aload_n hx hb dX3_spreads_85 rfl (lv_at hl 1 rfl) ?_
        refine va_get (D := D) (ci := 4) (v := .ref (md 15)) (C := RX3) (T := TX3) (N := 19) hx hb hts hinRX3 hown hK hP 0 rfl rfl 17 (by decide) (hts (.fieldLink RX3 53 "LicenceKeeperModel" "spread" "[I") (by decide +kernel)) (fun _ h9 => h9) rfl dX3_spreads_86 ?_
        refine lv_iload_n hx hb dX3_spreads_89 rfl (lv_at hl 3 rfl) ?_
        refine lv_iconst (v := 1) hx hb dX3_spreads_90 (by decide) ?_
        refine lv_iload_n hx hb dX3_spreads_91 rfl (lv_at hl 4 rfl) ?_
        refine lv_ishl hx hb dX3_spreads_92 ?_
        refine lv_isub hx hb dX3_spreads_93 ?_
        obtain ⟨hi_94, e⟩ := kv_G_e e hRz
        refine kv_iald hx hb hK hP 15 0 hi_94 dX3_spreads_94 rfl rfl (fun y_94 ey_94 => ?_)
        have e := kv_T_e e ey_94
        refine lv_aload_n hx hb dX3_spreads_95 rfl (lv_at hl 1 rfl) ?_
        refine lv_iload_n hx hb dX3_spreads_96 rfl (lv_at hl 2 rfl) ?_
        refine lv_iload_n hx hb dX3_spreads_97 rfl (lv_at hl 4 rfl) ?_
        refine kv_calli (va_runV (As := [.int p0, .int x3]) (rest := [.int y_94, .int x2, .ref (md 15)]) ⟨hx, hb, hml, hown, hts⟩ (c_X3_covered l D ci md th nw co ho ve la pr rg rp rm rc re ro rl cn tn g_79 sp ba p0 x3 (kv_q1_n e hRz) H.size) (cwV 2 hts gX3_spreads_X3_covered rfl rfl rfl (by decide +kernel) ⟨Nat.le_of_ble_eq_true rfl, Nat.le_of_ble_eq_true rfl⟩) (kv_preV hK hP hD (r := (RX3, TX3, 19)) (q0 := 0) (k := 4) rfl rfl rfl) rfl rfl hl.1 rfl (lv_room (Nat.le_of_ble_eq_true rfl)) dX3_spreads_98 ⟨Nat.le_of_ble_eq_true rfl, Nat.le_of_ble_eq_true rfl⟩) hD hS hA (fun r_98 u_98 H locs hw_98 hP hD hS => ?_)
        have e := kv_q1_e e hw_98
        refine lv_ior hx hb dX3_spreads_101 ?_
        obtain ⟨hi_102, e⟩ := kv_G_e e hRz
        refine kv_iast hx hb hK hP hD hS 15 0 (fun g_102 => (kv_mw ci md th nw co ho ve la pr rg rp rm rc re ro rl cn tn g_79 g_102 ba)) hi_102 dX3_spreads_102 rfl rfl (fun _ => rfl) (fun g_102 H locs eg_102 hP hD hS => ?_)
        have e := kv_T_e e eg_102
        refine lv_iinc (v := x2 + 1) (lv' := [(2, .int (x2 + 1)), (4, .int z0), (0, .ref (md 0)), (1, .int p0), (3, .int x3)]) hx hb dX3_spreads_103 hl (k := 3) rfl rfl (by decide) rfl (fun ls hl => ?_)
        refine lv_goto (tgt := 2) hx hb dX3_spreads_106 (by decide) ?_
        exact ih_2 (x2 + 1) g_79 g_102  _ _ _ hP hD hS (lv_sub hl [2, 3, 0] rfl) e
      have hb_11 : ∀ (n_11 : Nat), ∀ (x2 : Int32) (x3 : Int32) (tk : Nat → Int32) (sp : Nat → Int32) (H : Heap) (locs : List Loc) (ls : Array Slot), va_P D vwCl (kv_mw ci md th nw co ho ve la pr rg rp rm rc re ro rl cn tn tk sp ba) H → va_D A (kv_mw ci md th nw co ho ve la pr rg rp rm rc re ro rl cn tn tk sp ba) → va_S A s.heap H locs → lv_has ls 5 [(0, .ref (md 0)), (1, .int p0), (2, .int x2), (3, .int x3)] → Rz = pf_X3_spreads_11 co ho ve rp rm ro p0 (pf_X3_spreads_2 co ho ve rp rm ro p0  n_2) n_11 x2 x3 tk sp → W p l en rmX3_spreads s m args below meth c H locs 0 0 Q (F0 m 11 ls []) := by
        intro n_11
        induction n_11 with
        | zero =>
          intro x2 x3 tk sp H locs ls  _ _ _ _ e
          exact absurd e hRz
        | succ n_11 ih_11 =>
          intro x2 x3 tk sp H locs ls  hP hD hS hl e
          rw [pf_X3_spreads_11, pf_X3_spreads_11b] at e
          refine lv_iload_n hx hb dX3_spreads_11 rfl (lv_at hl 2 rfl) ?_
          refine lv_iload_n hx hb dX3_spreads_12 rfl (lv_at hl 3 rfl) ?_
          refine lv_ishr hx hb dX3_spreads_13 ?_
          refine lv_iconst (v := 1) hx hb dX3_spreads_14 (by decide) ?_
          refine lv_iand hx hb dX3_spreads_15 ?_
          refine lv_if_ne (tgt := 25) hx hb dX3_spreads_16 (by decide) (fun c_16 => ?_) (fun c_16 => ?_)
          · have e := e.trans (if_neg c_16)
            refine lv_aload_n hx hb dX3_spreads_25 rfl (lv_at hl 0 rfl) ?_
            refine va_get (D := D) (ci := 4) (v := .ref (md 7)) (C := RX3) (T := TX3) (N := 19) hx hb hts hinRX3 hown hK hP 0 rfl rfl 9 (by decide) (hts (.fieldLink RX3 28 "LicenceKeeperModel" "measure" "[I") (by decide +kernel)) (fun _ h9 => h9) rfl dX3_spreads_26 ?_
            refine lv_iload_n hx hb dX3_spreads_29 rfl (lv_at hl 1 rfl) ?_
            obtain ⟨hi_30, e⟩ := kv_G_e e hRz
            refine kv_iald hx hb hK hP 7 0 hi_30 dX3_spreads_30 rfl rfl (fun y_30 ey_30 => ?_)
            have e := kv_T_e e ey_30
            refine lv_iconst (v := 1) hx hb dX3_spreads_31 (by decide) ?_
            refine lv_icmp_eq (tgt := 39) hx hb dX3_spreads_32 (by decide) (fun c_32 => ?_) (fun c_32 => ?_)
            · have e := e.trans (if_pos c_32)
              refine lv_aload_n hx hb dX3_spreads_39 rfl (lv_at hl 0 rfl) ?_
              refine va_get (D := D) (ci := 4) (v := .ref (md 1)) (C := RX3) (T := TX3) (N := 19) hx hb hts hinRX3 hown hK hP 0 rfl rfl 2 (by decide) (hts (.fieldLink RX3 7 "LicenceKeeperModel" "cores" "[I") (by decide +kernel)) (fun _ h9 => h9) rfl dX3_spreads_40 ?_
              refine lv_iload_n hx hb dX3_spreads_43 rfl (lv_at hl 3 rfl) ?_
              obtain ⟨hi_44, e⟩ := kv_G_e e hRz
              refine kv_iald hx hb hK hP 1 0 hi_44 dX3_spreads_44 rfl rfl (fun y_44 ey_44 => ?_)
              have e := kv_T_e e ey_44
              refine lv_iconst (v := 4) hx hb dX3_spreads_45 (by decide) ?_
              refine lv_icmp_ge (tgt := 53) hx hb dX3_spreads_46 (by decide) (fun c_46 => ?_) (fun c_46 => ?_)
              · have e := e.trans (if_pos c_46)
                refine lv_aload_n hx hb dX3_spreads_53 rfl (lv_at hl 0 rfl) ?_
                refine va_get (D := D) (ci := 4) (v := .ref (md 1)) (C := RX3) (T := TX3) (N := 19) hx hb hts hinRX3 hown hK hP 0 rfl rfl 2 (by decide) (hts (.fieldLink RX3 7 "LicenceKeeperModel" "cores" "[I") (by decide +kernel)) (fun _ h9 => h9) rfl dX3_spreads_54 ?_
                refine lv_iload_n hx hb dX3_spreads_57 rfl (lv_at hl 3 rfl) ?_
                obtain ⟨hi_58, e⟩ := kv_G_e e hRz
                refine kv_iald hx hb hK hP 1 0 hi_58 dX3_spreads_58 rfl rfl (fun y_58 ey_58 => ?_)
                have e := kv_T_e e ey_58
                exact hb_59 x2 x3 y_58 tk sp  _ _ _ hP hD hS (lv_sub hl [0, 1, 2, 3] rfl) e
              · have e := e.trans (if_neg c_46)
                refine lv_iconst (v := 4) hx hb dX3_spreads_49 (by decide) ?_
                refine lv_goto (tgt := 59) hx hb dX3_spreads_50 (by decide) ?_
                exact hb_59 x2 x3 4 tk sp  _ _ _ hP hD hS (lv_sub hl [0, 1, 2, 3] rfl) e
            · have e := e.trans (if_neg c_32)
              refine lv_iconst (v := 1) hx hb dX3_spreads_35 (by decide) ?_
              refine lv_goto (tgt := 59) hx hb dX3_spreads_36 (by decide) ?_
              exact hb_59 x2 x3 1 tk sp  _ _ _ hP hD hS (lv_sub hl [0, 1, 2, 3] rfl) e
          · have e := e.trans (if_pos c_16)
            refine lv_iinc (v := x3 + 1) (lv' := [(3, .int (x3 + 1)), (0, .ref (md 0)), (1, .int p0), (2, .int x2)]) hx hb dX3_spreads_19 hl (k := 3) rfl rfl (by decide) rfl (fun ls hl => ?_)
            refine lv_goto (tgt := 11) hx hb dX3_spreads_22 (by decide) ?_
            exact ih_11 x2 (x3 + 1) tk sp  _ _ _ hP hD hS (lv_sub hl [1, 2, 3, 0] rfl) e
      intro x2 tk sp H locs ls  hP hD hS hl e
      rw [pf_X3_spreads_2, pf_X3_spreads_2b] at e
      refine lv_iload_n hx hb dX3_spreads_2 rfl (lv_at hl 2 rfl) ?_
      refine lv_sipush (v := 256) hx hb dX3_spreads_3 (by decide) ?_
      refine lv_icmp_ge (tgt := 109) hx hb dX3_spreads_6 (by decide) (fun c_6 => ?_) (fun c_6 => ?_)
      · have e := e.trans (if_pos c_6)
        rw [hQ]
        exact W.vret hx hb hr (fun t ht hW => ⟨⟨(tk, sp), rfl, e, ⟨by rw [ht]; exact hP, by rw [hAe]; exact hD⟩⟩, hS.F ht⟩) hS.2.2 dX3_spreads_109
      · have e := e.trans (if_neg c_6)
        refine lv_iconst (v := 0) hx hb dX3_spreads_9 (by decide) ?_
        refine lv_istore_n (lv' := [(3, .int 0), (0, .ref (md 0)), (1, .int p0), (2, .int x2)]) hx hb dX3_spreads_10 rfl hl (by decide) rfl (fun ls hl => ?_)
        exact hb_11 kv_F x2 0 tk sp  _ _ _ hP hD hS (lv_sub hl [1, 2, 3, 0] rfl) e
  refine lv_iconst (v := 1) hx hb dX3_spreads_0 (by decide) ?_
  refine lv_istore_n (lv' := [(2, .int 1), (0, .ref (md 0)), (1, .int p0)]) hx hb dX3_spreads_1 rfl hl (by decide) rfl (fun ls hl => ?_)
  exact hb_2 kv_F 1 tk sp  _ _ _ hP hD hS (lv_sub hl [1, 2, 0] rfl) e

def pf_X3_least_363 (co : Nat → Int32) (ho : Nat → Int32) (ve : Nat → Int32) (pr : Nat → Int32) (rg : Int32) (rp : Nat → Int32) (rm : Nat → Int32) (rc : Nat → Int32) (ro : Nat → Int32) (p0 : Int32) (k_231 : Int32 → Int32 → Int32 → (Nat → Int32) → (Nat → Int32) → (Nat → Int32) → (Nat → Int32) → Int32 → Option (Int32 × (Nat → Int32) × (Nat → Int32) × (Nat → Int32) × (Nat → Int32) × Int32)) (x2 : Int32) (x3 : Int32) (x4 : Int32) (z1 : Int32) (cn : Nat → Int32) (tn : Nat → Int32) (tk : Nat → Int32) (sp : Nat → Int32) (ba : Int32) : Option (Int32 × (Nat → Int32) × (Nat → Int32) × (Nat → Int32) × (Nat → Int32) × Int32) :=
  k_231 x2 x3 (x4 + 1) cn tn tk sp z1
def pf_X3_least_347 (co : Nat → Int32) (ho : Nat → Int32) (ve : Nat → Int32) (pr : Nat → Int32) (rg : Int32) (rp : Nat → Int32) (rm : Nat → Int32) (rc : Nat → Int32) (ro : Nat → Int32) (p0 : Int32) (k_231 : Int32 → Int32 → Int32 → (Nat → Int32) → (Nat → Int32) → (Nat → Int32) → (Nat → Int32) → Int32 → Option (Int32 × (Nat → Int32) × (Nat → Int32) × (Nat → Int32) × (Nat → Int32) × Int32)) (x2 : Int32) (x4 : Int32) (x5 : Int32) (x7 : Int32) (z0 : Int32) (cn : Nat → Int32) (tn : Nat → Int32) (tk : Nat → Int32) (sp : Nat → Int32) (ba : Int32) : Option (Int32 × (Nat → Int32) × (Nat → Int32) × (Nat → Int32) × (Nat → Int32) × Int32) :=
  if x7 = 0 then pf_X3_least_363 co ho ve pr rg rp rm rc ro p0 k_231 x2 z0 x4 ba cn tn tk sp ba else pf_X3_least_363 co ho ve pr rg rp rm rc ro p0 k_231 x2 z0 x4 x5 cn tn tk sp ba
def pf_X3_least_334 (co : Nat → Int32) (ho : Nat → Int32) (ve : Nat → Int32) (pr : Nat → Int32) (rg : Int32) (rp : Nat → Int32) (rm : Nat → Int32) (rc : Nat → Int32) (ro : Nat → Int32) (p0 : Int32) (k_231 : Int32 → Int32 → Int32 → (Nat → Int32) → (Nat → Int32) → (Nat → Int32) → (Nat → Int32) → Int32 → Option (Int32 × (Nat → Int32) × (Nat → Int32) × (Nat → Int32) × (Nat → Int32) × Int32)) (x2 : Int32) (x3 : Int32) (x4 : Int32) (x5 : Int32) (x6 : Int32) (z0 : Int32) (cn : Nat → Int32) (tn : Nat → Int32) (tk : Nat → Int32) (sp : Nat → Int32) (ba : Int32) : Option (Int32 × (Nat → Int32) × (Nat → Int32) × (Nat → Int32) × (Nat → Int32) × Int32) :=
  if z0 = 0 then pf_X3_least_347 co ho ve pr rg rp rm rc ro p0 k_231 x2 x4 x5 z0 x3 cn tn tk sp ba else pf_X3_least_347 co ho ve pr rg rp rm rc ro p0 k_231 x2 x4 x5 z0 x6 cn tn tk sp ba
def pf_X3_least_284 (co : Nat → Int32) (ho : Nat → Int32) (ve : Nat → Int32) (pr : Nat → Int32) (rg : Int32) (rp : Nat → Int32) (rm : Nat → Int32) (rc : Nat → Int32) (ro : Nat → Int32) (p0 : Int32) (k_231 : Int32 → Int32 → Int32 → (Nat → Int32) → (Nat → Int32) → (Nat → Int32) → (Nat → Int32) → Int32 → Option (Int32 × (Nat → Int32) × (Nat → Int32) × (Nat → Int32) × (Nat → Int32) × Int32)) (k_253 : Int32 → Int32 → Int32 → Int32 → Int32 → Int32 → (Nat → Int32) → (Nat → Int32) → (Nat → Int32) → (Nat → Int32) → Int32 → Option (Int32 × (Nat → Int32) × (Nat → Int32) × (Nat → Int32) × (Nat → Int32) × Int32)) (x2 : Int32) (x3 : Int32) (x4 : Int32) (x5 : Int32) (x7 : Int32) (z0 : Int32) (z1 : Int32) (cn : Nat → Int32) (tn : Nat → Int32) (tk : Nat → Int32) (sp : Nat → Int32) (ba : Int32) : Option (Int32 × (Nat → Int32) × (Nat → Int32) × (Nat → Int32) × (Nat → Int32) × Int32) :=
  kv_T (z0 + z1) (fun y_285 => k_253 x2 x3 x4 x5 y_285 (x7 + 1) cn tn tk sp ba)
def pf_X3_least_253b (co : Nat → Int32) (ho : Nat → Int32) (ve : Nat → Int32) (pr : Nat → Int32) (rg : Int32) (rp : Nat → Int32) (rm : Nat → Int32) (rc : Nat → Int32) (ro : Nat → Int32) (p0 : Int32) (k_231 : Int32 → Int32 → Int32 → (Nat → Int32) → (Nat → Int32) → (Nat → Int32) → (Nat → Int32) → Int32 → Option (Int32 × (Nat → Int32) × (Nat → Int32) × (Nat → Int32) × (Nat → Int32) × Int32)) (k_253 : Int32 → Int32 → Int32 → Int32 → Int32 → Int32 → (Nat → Int32) → (Nat → Int32) → (Nat → Int32) → (Nat → Int32) → Int32 → Option (Int32 × (Nat → Int32) × (Nat → Int32) × (Nat → Int32) × (Nat → Int32) × Int32)) (x2 : Int32) (x3 : Int32) (x4 : Int32) (x5 : Int32) (x6 : Int32) (x7 : Int32) (cn : Nat → Int32) (tn : Nat → Int32) (tk : Nat → Int32) (sp : Nat → Int32) (ba : Int32) : Option (Int32 × (Nat → Int32) × (Nat → Int32) × (Nat → Int32) × (Nat → Int32) × Int32) :=
  if 8 ≤ x7 then kv_G x4 256 (kv_T (cn x4.toNatClampNeg) (fun y_299 => if y_299 = 0 then pf_X3_least_334 co ho ve pr rg rp rm rc ro p0 k_231 x2 x3 x4 x5 x6 0 cn tn tk sp ba else if x3 = (-1) then pf_X3_least_334 co ho ve pr rg rp rm rc ro p0 k_231 x2 x3 x4 x5 x6 1 cn tn tk sp ba else if x6 < x3 then pf_X3_least_334 co ho ve pr rg rp rm rc ro p0 k_231 x2 x3 x4 x5 x6 1 cn tn tk sp ba else if x6 = x3 then if ba ≤ x5 then pf_X3_least_334 co ho ve pr rg rp rm rc ro p0 k_231 x2 x3 x4 x5 x6 0 cn tn tk sp ba else pf_X3_least_334 co ho ve pr rg rp rm rc ro p0 k_231 x2 x3 x4 x5 x6 1 cn tn tk sp ba else pf_X3_least_334 co ho ve pr rg rp rm rc ro p0 k_231 x2 x3 x4 x5 x6 0 cn tn tk sp ba)) else if ((x5 >>> (x7 &&& 31)) &&& 1) = 1 then kv_q1 (pf_X3_weighs co ve pr x7 p0) (fun r_277 => pf_X3_least_284 co ho ve pr rg rp rm rc ro p0 k_231 k_253 x2 x3 x4 x5 x7 x6 r_277 cn tn tk sp ba) else pf_X3_least_284 co ho ve pr rg rp rm rc ro p0 k_231 k_253 x2 x3 x4 x5 x7 x6 0 cn tn tk sp ba
def pf_X3_least_253 (co : Nat → Int32) (ho : Nat → Int32) (ve : Nat → Int32) (pr : Nat → Int32) (rg : Int32) (rp : Nat → Int32) (rm : Nat → Int32) (rc : Nat → Int32) (ro : Nat → Int32) (p0 : Int32) (k_231 : Int32 → Int32 → Int32 → (Nat → Int32) → (Nat → Int32) → (Nat → Int32) → (Nat → Int32) → Int32 → Option (Int32 × (Nat → Int32) × (Nat → Int32) × (Nat → Int32) × (Nat → Int32) × Int32)) : Nat → Int32 → Int32 → Int32 → Int32 → Int32 → Int32 → (Nat → Int32) → (Nat → Int32) → (Nat → Int32) → (Nat → Int32) → Int32 → Option (Int32 × (Nat → Int32) × (Nat → Int32) × (Nat → Int32) × (Nat → Int32) × Int32)
  | 0, _, _, _, _, _, _, _, _, _, _, _ => none
  | nn + 1, x2, x3, x4, x5, x6, x7, cn, tn, tk, sp, ba => pf_X3_least_253b co ho ve pr rg rp rm rc ro p0 k_231 (pf_X3_least_253 co ho ve pr rg rp rm rc ro p0 k_231 nn) x2 x3 x4 x5 x6 x7 cn tn tk sp ba
def pf_X3_least_231b (co : Nat → Int32) (ho : Nat → Int32) (ve : Nat → Int32) (pr : Nat → Int32) (rg : Int32) (rp : Nat → Int32) (rm : Nat → Int32) (rc : Nat → Int32) (ro : Nat → Int32) (p0 : Int32)  (k_231 : Int32 → Int32 → Int32 → (Nat → Int32) → (Nat → Int32) → (Nat → Int32) → (Nat → Int32) → Int32 → Option (Int32 × (Nat → Int32) × (Nat → Int32) × (Nat → Int32) × (Nat → Int32) × Int32)) (x2 : Int32) (x3 : Int32) (x4 : Int32) (cn : Nat → Int32) (tn : Nat → Int32) (tk : Nat → Int32) (sp : Nat → Int32) (ba : Int32) : Option (Int32 × (Nat → Int32) × (Nat → Int32) × (Nat → Int32) × (Nat → Int32) × Int32) :=
  if 256 ≤ x4 then some (x3, cn, tn, tk, sp, ba) else kv_T (x2 &&& (x4 ^^^ (-1))) (fun y_245 => pf_X3_least_253 co ho ve pr rg rp rm rc ro p0 k_231 kv_F x2 x3 x4 y_245 0 0 cn tn tk sp ba)
def pf_X3_least_231 (co : Nat → Int32) (ho : Nat → Int32) (ve : Nat → Int32) (pr : Nat → Int32) (rg : Int32) (rp : Nat → Int32) (rm : Nat → Int32) (rc : Nat → Int32) (ro : Nat → Int32) (p0 : Int32)  : Nat → Int32 → Int32 → Int32 → (Nat → Int32) → (Nat → Int32) → (Nat → Int32) → (Nat → Int32) → Int32 → Option (Int32 × (Nat → Int32) × (Nat → Int32) × (Nat → Int32) × (Nat → Int32) × Int32)
  | 0, _, _, _, _, _, _, _, _ => none
  | nn + 1, x2, x3, x4, cn, tn, tk, sp, ba => pf_X3_least_231b co ho ve pr rg rp rm rc ro p0  (pf_X3_least_231 co ho ve pr rg rp rm rc ro p0  nn) x2 x3 x4 cn tn tk sp ba
def pf_X3_least_218 (co : Nat → Int32) (ho : Nat → Int32) (ve : Nat → Int32) (pr : Nat → Int32) (rg : Int32) (rp : Nat → Int32) (rm : Nat → Int32) (rc : Nat → Int32) (ro : Nat → Int32) (p0 : Int32) (k_191 : Int32 → Int32 → (Nat → Int32) → (Nat → Int32) → (Nat → Int32) → (Nat → Int32) → Int32 → Option (Int32 × (Nat → Int32) × (Nat → Int32) × (Nat → Int32) × (Nat → Int32) × Int32)) (x3 : Int32) (z0 : Int32) (z1 : Int32) (cn : Nat → Int32) (tn : Nat → Int32) (tk : Nat → Int32) (sp : Nat → Int32) (ba : Int32) : Option (Int32 × (Nat → Int32) × (Nat → Int32) × (Nat → Int32) × (Nat → Int32) × Int32) :=
  kv_T (z0 ||| z1) (fun y_219 => k_191 y_219 (x3 + 1) cn tn tk sp ba)
def pf_X3_least_191b (co : Nat → Int32) (ho : Nat → Int32) (ve : Nat → Int32) (pr : Nat → Int32) (rg : Int32) (rp : Nat → Int32) (rm : Nat → Int32) (rc : Nat → Int32) (ro : Nat → Int32) (p0 : Int32)  (k_191 : Int32 → Int32 → (Nat → Int32) → (Nat → Int32) → (Nat → Int32) → (Nat → Int32) → Int32 → Option (Int32 × (Nat → Int32) × (Nat → Int32) × (Nat → Int32) × (Nat → Int32) × Int32)) (x2 : Int32) (x3 : Int32) (cn : Nat → Int32) (tn : Nat → Int32) (tk : Nat → Int32) (sp : Nat → Int32) (ba : Int32) : Option (Int32 × (Nat → Int32) × (Nat → Int32) × (Nat → Int32) × (Nat → Int32) × Int32) :=
  if 8 ≤ x3 then pf_X3_least_231 co ho ve pr rg rp rm rc ro p0 kv_F x2 (-1) 0 cn tn tk sp ba else kv_G ((4 * x3) + p0) 32 (kv_T (ve ((4 * x3) + p0).toNatClampNeg) (fun y_207 => if y_207 ≤ 0 then pf_X3_least_218 co ho ve pr rg rp rm rc ro p0 k_191 x3 x2 0 cn tn tk sp ba else pf_X3_least_218 co ho ve pr rg rp rm rc ro p0 k_191 x3 x2 (1 <<< (x3 &&& 31)) cn tn tk sp ba))
def pf_X3_least_191 (co : Nat → Int32) (ho : Nat → Int32) (ve : Nat → Int32) (pr : Nat → Int32) (rg : Int32) (rp : Nat → Int32) (rm : Nat → Int32) (rc : Nat → Int32) (ro : Nat → Int32) (p0 : Int32)  : Nat → Int32 → Int32 → (Nat → Int32) → (Nat → Int32) → (Nat → Int32) → (Nat → Int32) → Int32 → Option (Int32 × (Nat → Int32) × (Nat → Int32) × (Nat → Int32) × (Nat → Int32) × Int32)
  | 0, _, _, _, _, _, _, _ => none
  | nn + 1, x2, x3, cn, tn, tk, sp, ba => pf_X3_least_191b co ho ve pr rg rp rm rc ro p0  (pf_X3_least_191 co ho ve pr rg rp rm rc ro p0  nn) x2 x3 cn tn tk sp ba
def pf_X3_least_156b (co : Nat → Int32) (ho : Nat → Int32) (ve : Nat → Int32) (pr : Nat → Int32) (rg : Int32) (rp : Nat → Int32) (rm : Nat → Int32) (rc : Nat → Int32) (ro : Nat → Int32) (p0 : Int32) (k_32 : Int32 → (Nat → Int32) → (Nat → Int32) → (Nat → Int32) → (Nat → Int32) → Int32 → Option (Int32 × (Nat → Int32) × (Nat → Int32) × (Nat → Int32) × (Nat → Int32) × Int32)) (k_156 : Int32 → Int32 → (Nat → Int32) → (Nat → Int32) → (Nat → Int32) → (Nat → Int32) → Int32 → Option (Int32 × (Nat → Int32) × (Nat → Int32) × (Nat → Int32) × (Nat → Int32) × Int32)) (x2 : Int32) (x3 : Int32) (cn : Nat → Int32) (tn : Nat → Int32) (tk : Nat → Int32) (sp : Nat → Int32) (ba : Int32) : Option (Int32 × (Nat → Int32) × (Nat → Int32) × (Nat → Int32) × (Nat → Int32) × Int32) :=
  if 256 ≤ x3 then k_32 (x2 + 1) cn tn tk sp ba else kv_G x3 256 (kv_T (tn x3.toNatClampNeg) (fun y_173 => kv_G x3 256 (kv_T (upd cn x3.toNatClampNeg (vp_nar .boolean y_173)) (fun g_174 => k_156 x2 (x3 + 1) g_174 tn tk sp ba))))
def pf_X3_least_156 (co : Nat → Int32) (ho : Nat → Int32) (ve : Nat → Int32) (pr : Nat → Int32) (rg : Int32) (rp : Nat → Int32) (rm : Nat → Int32) (rc : Nat → Int32) (ro : Nat → Int32) (p0 : Int32) (k_32 : Int32 → (Nat → Int32) → (Nat → Int32) → (Nat → Int32) → (Nat → Int32) → Int32 → Option (Int32 × (Nat → Int32) × (Nat → Int32) × (Nat → Int32) × (Nat → Int32) × Int32)) : Nat → Int32 → Int32 → (Nat → Int32) → (Nat → Int32) → (Nat → Int32) → (Nat → Int32) → Int32 → Option (Int32 × (Nat → Int32) × (Nat → Int32) × (Nat → Int32) × (Nat → Int32) × Int32)
  | 0, _, _, _, _, _, _, _ => none
  | nn + 1, x2, x3, cn, tn, tk, sp, ba => pf_X3_least_156b co ho ve pr rg rp rm rc ro p0 k_32 (pf_X3_least_156 co ho ve pr rg rp rm rc ro p0 k_32 nn) x2 x3 cn tn tk sp ba
def pf_X3_least_88b (co : Nat → Int32) (ho : Nat → Int32) (ve : Nat → Int32) (pr : Nat → Int32) (rg : Int32) (rp : Nat → Int32) (rm : Nat → Int32) (rc : Nat → Int32) (ro : Nat → Int32) (p0 : Int32) (k_32 : Int32 → (Nat → Int32) → (Nat → Int32) → (Nat → Int32) → (Nat → Int32) → Int32 → Option (Int32 × (Nat → Int32) × (Nat → Int32) × (Nat → Int32) × (Nat → Int32) × Int32)) (k_88 : Int32 → Int32 → (Nat → Int32) → (Nat → Int32) → (Nat → Int32) → (Nat → Int32) → Int32 → Option (Int32 × (Nat → Int32) × (Nat → Int32) × (Nat → Int32) × (Nat → Int32) × Int32)) (x2 : Int32) (x3 : Int32) (cn : Nat → Int32) (tn : Nat → Int32) (tk : Nat → Int32) (sp : Nat → Int32) (ba : Int32) : Option (Int32 × (Nat → Int32) × (Nat → Int32) × (Nat → Int32) × (Nat → Int32) × Int32) :=
  if 65536 ≤ x3 then pf_X3_least_156 co ho ve pr rg rp rm rc ro p0 k_32 kv_F x2 0 cn tn tk sp ba else kv_Z 256 (kv_G (x3 / 256) 256 (kv_T (cn (x3 / 256).toNatClampNeg) (fun y_103 => if y_103 = 0 then k_88 x2 (x3 + 1) cn tn tk sp ba else kv_Z 256 (kv_G (x3 - x3 / 256 * 256) 256 (kv_T (tk (x3 - x3 / 256 * 256).toNatClampNeg) (fun y_116 => kv_G x2 12 (kv_T (rc x2.toNatClampNeg) (fun y_122 => if y_122 < y_116 then k_88 x2 (x3 + 1) cn tn tk sp ba else kv_Z 256 (kv_Z 256 (kv_G (x3 - x3 / 256 * 256) 256 (kv_T (sp (x3 - x3 / 256 * 256).toNatClampNeg) (fun y_144 => kv_G ((x3 / 256) ||| y_144) 256 (kv_T (upd tn ((x3 / 256) ||| y_144).toNatClampNeg (vp_nar .boolean 1)) (fun g_147 => k_88 x2 (x3 + 1) cn g_147 tk sp ba))))))))))))))
def pf_X3_least_88 (co : Nat → Int32) (ho : Nat → Int32) (ve : Nat → Int32) (pr : Nat → Int32) (rg : Int32) (rp : Nat → Int32) (rm : Nat → Int32) (rc : Nat → Int32) (ro : Nat → Int32) (p0 : Int32) (k_32 : Int32 → (Nat → Int32) → (Nat → Int32) → (Nat → Int32) → (Nat → Int32) → Int32 → Option (Int32 × (Nat → Int32) × (Nat → Int32) × (Nat → Int32) × (Nat → Int32) × Int32)) : Nat → Int32 → Int32 → (Nat → Int32) → (Nat → Int32) → (Nat → Int32) → (Nat → Int32) → Int32 → Option (Int32 × (Nat → Int32) × (Nat → Int32) × (Nat → Int32) × (Nat → Int32) × Int32)
  | 0, _, _, _, _, _, _, _ => none
  | nn + 1, x2, x3, cn, tn, tk, sp, ba => pf_X3_least_88b co ho ve pr rg rp rm rc ro p0 k_32 (pf_X3_least_88 co ho ve pr rg rp rm rc ro p0 k_32 nn) x2 x3 cn tn tk sp ba
def pf_X3_least_66b (co : Nat → Int32) (ho : Nat → Int32) (ve : Nat → Int32) (pr : Nat → Int32) (rg : Int32) (rp : Nat → Int32) (rm : Nat → Int32) (rc : Nat → Int32) (ro : Nat → Int32) (p0 : Int32) (k_32 : Int32 → (Nat → Int32) → (Nat → Int32) → (Nat → Int32) → (Nat → Int32) → Int32 → Option (Int32 × (Nat → Int32) × (Nat → Int32) × (Nat → Int32) × (Nat → Int32) × Int32)) (k_66 : Int32 → Int32 → (Nat → Int32) → (Nat → Int32) → (Nat → Int32) → (Nat → Int32) → Int32 → Option (Int32 × (Nat → Int32) × (Nat → Int32) × (Nat → Int32) × (Nat → Int32) × Int32)) (x2 : Int32) (x3 : Int32) (cn : Nat → Int32) (tn : Nat → Int32) (tk : Nat → Int32) (sp : Nat → Int32) (ba : Int32) : Option (Int32 × (Nat → Int32) × (Nat → Int32) × (Nat → Int32) × (Nat → Int32) × Int32) :=
  if 256 ≤ x3 then pf_X3_least_88 co ho ve pr rg rp rm rc ro p0 k_32 kv_F x2 0 cn tn tk sp ba else kv_G x3 256 (kv_T (upd tn x3.toNatClampNeg (vp_nar .boolean 0)) (fun g_79 => k_66 x2 (x3 + 1) cn g_79 tk sp ba))
def pf_X3_least_66 (co : Nat → Int32) (ho : Nat → Int32) (ve : Nat → Int32) (pr : Nat → Int32) (rg : Int32) (rp : Nat → Int32) (rm : Nat → Int32) (rc : Nat → Int32) (ro : Nat → Int32) (p0 : Int32) (k_32 : Int32 → (Nat → Int32) → (Nat → Int32) → (Nat → Int32) → (Nat → Int32) → Int32 → Option (Int32 × (Nat → Int32) × (Nat → Int32) × (Nat → Int32) × (Nat → Int32) × Int32)) : Nat → Int32 → Int32 → (Nat → Int32) → (Nat → Int32) → (Nat → Int32) → (Nat → Int32) → Int32 → Option (Int32 × (Nat → Int32) × (Nat → Int32) × (Nat → Int32) × (Nat → Int32) × Int32)
  | 0, _, _, _, _, _, _, _ => none
  | nn + 1, x2, x3, cn, tn, tk, sp, ba => pf_X3_least_66b co ho ve pr rg rp rm rc ro p0 k_32 (pf_X3_least_66 co ho ve pr rg rp rm rc ro p0 k_32 nn) x2 x3 cn tn tk sp ba
def pf_X3_least_32b (co : Nat → Int32) (ho : Nat → Int32) (ve : Nat → Int32) (pr : Nat → Int32) (rg : Int32) (rp : Nat → Int32) (rm : Nat → Int32) (rc : Nat → Int32) (ro : Nat → Int32) (p0 : Int32)  (k_32 : Int32 → (Nat → Int32) → (Nat → Int32) → (Nat → Int32) → (Nat → Int32) → Int32 → Option (Int32 × (Nat → Int32) × (Nat → Int32) × (Nat → Int32) × (Nat → Int32) × Int32)) (x2 : Int32) (cn : Nat → Int32) (tn : Nat → Int32) (tk : Nat → Int32) (sp : Nat → Int32) (ba : Int32) : Option (Int32 × (Nat → Int32) × (Nat → Int32) × (Nat → Int32) × (Nat → Int32) × Int32) :=
  if rg ≤ x2 then pf_X3_least_191 co ho ve pr rg rp rm rc ro p0 kv_F 0 0 cn tn tk sp ba else kv_G x2 12 (kv_T (rp x2.toNatClampNeg) (fun y_45 => if y_45 = p0 then kv_G x2 12 (kv_T (rc x2.toNatClampNeg) (fun y_55 => if y_55 ≤ 0 then k_32 (x2 + 1) cn tn tk sp ba else kv_q2 (pf_X3_spreads co ho ve rp rm ro x2 tk sp) (fun o0_61 o1_61 => pf_X3_least_66 co ho ve pr rg rp rm rc ro p0 k_32 kv_F x2 0 cn tn o0_61 o1_61 ba))) else k_32 (x2 + 1) cn tn tk sp ba))
def pf_X3_least_32 (co : Nat → Int32) (ho : Nat → Int32) (ve : Nat → Int32) (pr : Nat → Int32) (rg : Int32) (rp : Nat → Int32) (rm : Nat → Int32) (rc : Nat → Int32) (ro : Nat → Int32) (p0 : Int32)  : Nat → Int32 → (Nat → Int32) → (Nat → Int32) → (Nat → Int32) → (Nat → Int32) → Int32 → Option (Int32 × (Nat → Int32) × (Nat → Int32) × (Nat → Int32) × (Nat → Int32) × Int32)
  | 0, _, _, _, _, _, _ => none
  | nn + 1, x2, cn, tn, tk, sp, ba => pf_X3_least_32b co ho ve pr rg rp rm rc ro p0  (pf_X3_least_32 co ho ve pr rg rp rm rc ro p0  nn) x2 cn tn tk sp ba
def pf_X3_least_23 (co : Nat → Int32) (ho : Nat → Int32) (ve : Nat → Int32) (pr : Nat → Int32) (rg : Int32) (rp : Nat → Int32) (rm : Nat → Int32) (rc : Nat → Int32) (ro : Nat → Int32) (p0 : Int32) (k_2 : Int32 → (Nat → Int32) → (Nat → Int32) → (Nat → Int32) → (Nat → Int32) → Int32 → Option (Int32 × (Nat → Int32) × (Nat → Int32) × (Nat → Int32) × (Nat → Int32) × Int32)) (x2 : Int32) (z1 : Int32) (z2 : Int32) (cn : Nat → Int32) (tn : Nat → Int32) (tk : Nat → Int32) (sp : Nat → Int32) (ba : Int32) : Option (Int32 × (Nat → Int32) × (Nat → Int32) × (Nat → Int32) × (Nat → Int32) × Int32) :=
  kv_G z1 256 (kv_T (upd cn z1.toNatClampNeg (vp_nar .boolean z2)) (fun g_23 => k_2 (x2 + 1) g_23 tn tk sp ba))
def pf_X3_least_2b (co : Nat → Int32) (ho : Nat → Int32) (ve : Nat → Int32) (pr : Nat → Int32) (rg : Int32) (rp : Nat → Int32) (rm : Nat → Int32) (rc : Nat → Int32) (ro : Nat → Int32) (p0 : Int32)  (k_2 : Int32 → (Nat → Int32) → (Nat → Int32) → (Nat → Int32) → (Nat → Int32) → Int32 → Option (Int32 × (Nat → Int32) × (Nat → Int32) × (Nat → Int32) × (Nat → Int32) × Int32)) (x2 : Int32) (cn : Nat → Int32) (tn : Nat → Int32) (tk : Nat → Int32) (sp : Nat → Int32) (ba : Int32) : Option (Int32 × (Nat → Int32) × (Nat → Int32) × (Nat → Int32) × (Nat → Int32) × Int32) :=
  if 256 ≤ x2 then pf_X3_least_32 co ho ve pr rg rp rm rc ro p0 kv_F 0 cn tn tk sp ba else if x2 = 0 then pf_X3_least_23 co ho ve pr rg rp rm rc ro p0 k_2 x2 x2 1 cn tn tk sp ba else pf_X3_least_23 co ho ve pr rg rp rm rc ro p0 k_2 x2 x2 0 cn tn tk sp ba
def pf_X3_least_2 (co : Nat → Int32) (ho : Nat → Int32) (ve : Nat → Int32) (pr : Nat → Int32) (rg : Int32) (rp : Nat → Int32) (rm : Nat → Int32) (rc : Nat → Int32) (ro : Nat → Int32) (p0 : Int32)  : Nat → Int32 → (Nat → Int32) → (Nat → Int32) → (Nat → Int32) → (Nat → Int32) → Int32 → Option (Int32 × (Nat → Int32) × (Nat → Int32) × (Nat → Int32) × (Nat → Int32) × Int32)
  | 0, _, _, _, _, _, _ => none
  | nn + 1, x2, cn, tn, tk, sp, ba => pf_X3_least_2b co ho ve pr rg rp rm rc ro p0  (pf_X3_least_2 co ho ve pr rg rp rm rc ro p0  nn) x2 cn tn tk sp ba
def pf_X3_least (co : Nat → Int32) (ho : Nat → Int32) (ve : Nat → Int32) (pr : Nat → Int32) (rg : Int32) (rp : Nat → Int32) (rm : Nat → Int32) (rc : Nat → Int32) (ro : Nat → Int32) (p0 : Int32) (cn : Nat → Int32) (tn : Nat → Int32) (tk : Nat → Int32) (sp : Nat → Int32) (ba : Int32) : Option (Int32 × (Nat → Int32) × (Nat → Int32) × (Nat → Int32) × (Nat → Int32) × Int32) :=
  pf_X3_least_2 co ho ve pr rg rp rm rc ro p0 kv_F 0 cn tn tk sp ba
abbrev rmX3_least : Room := { frames := 2, cells := 0, slots := 0, locals := 50 }
set_option maxHeartbeats 4000000 in
set_option maxRecDepth 100000 in
theorem c_X3_least (l : Launch) (D : va_G) (ci md : Nat → Nat) (th : Int32) (nw : Int32) (co : Nat → Int32) (ho : Nat → Int32) (ve : Nat → Int32) (la : Nat → Int32) (pr : Nat → Int32) (rg : Int32) (rp : Nat → Int32) (rm : Nat → Int32) (rc : Nat → Int32) (re : Nat → Int32) (ro : Nat → Int32) (rl : Nat → Int32) (cn : Nat → Int32) (tn : Nat → Int32) (tk : Nat → Int32) (sp : Nat → Int32) (ba : Int32) (p0 : Int32)  (hRn : pf_X3_least co ho ve pr rg rp rm rc ro p0 cn tn tk sp ba ≠ none) (sz : Nat) : Met l yX3_least wsX3_least rmX3_least (va_Pc [.ref (md 0), .int p0] (kv_pre D ci (kv_mw ci md th nw co ho ve la pr rg rp rm rc re ro rl cn tn tk sp ba) sz)) (va_Qi (fun (r : Int32) (u : (Nat → Int32) × (Nat → Int32) × (Nat → Int32) × (Nat → Int32) × Int32) => pf_X3_least co ho ve pr rg rp rm rc ro p0 cn tn tk sp ba = some (r, u)) (fun u t => kv_post D (kv_mw ci md th nw co ho ve la pr rg rp rm rc re ro rl cn tn tk sp ba) sz (kv_mw ci md th nw co ho ve la pr rg rp rm rc re ro rl u.1 u.2.1 u.2.2.1 u.2.2.2.1 u.2.2.2.2) t) (va_A (kv_mw ci md th nw co ho ve la pr rg rp rm rc re ro rl cn tn tk sp ba) sz)) 0 0 (va_A (kv_mw ci md th nw co ho ve la pr rg rp rm rc re ro rl cn tn tk sp ba) sz) := by
  refine Met.ofW (cc := cX3_least) (maxL := 8) (ret := (some .int)) (by decide) rfl ?_
  intro p en s m args below meth c s₁ B hml hv
  obtain ⟨hv0, hsz, hP, hK, hD0⟩ := hv
  have hx := B.exec
  have hb := B.bytes
  have hr := B.returns
  have hts := atoms_spec (ws := wsX3_least) B.pre
  have hown : s.vm.findClass RX3 = some m.cls := findClass_of_methodNamed B.named
  have hlocks := B.notSynchronized
  subst hsz
  have hD := hD0.self (sz := s.heap.size)
  generalize hAe : va_A (kv_mw ci md th nw co ho ve la pr rg rp rm rc re ro rl cn tn tk sp ba) s.heap.size = A at hD ⊢
  have hA : ∀ q : Nat, s.heap.size ≤ q → A q := fun q h => by rw [← hAe]; exact Or.inr h
  have hS : va_S A s.heap s.heap [] := va_S.rf
  have hP : va_P D vwCl (kv_mw ci md th nw co ho ve la pr rg rp rm rc re ro rl cn tn tk sp ba) s.heap := hP
  have hinRX3 : ∀ w ∈ u_ws RX3 TX3 19, w ∈ wsX3_least := by decide +kernel
  generalize hRd : pf_X3_least co ho ve pr rg rp rm rc ro p0 cn tn tk sp ba = Rz at hRn
  have hRz := hRn
  refine kv_Q (fun Q hQ => ?_)
  refine W.eq (show entryFrame m args 8 = _ from by rw [hv0, lg_entry_eq]) ?_
  have hl := lv_entry ([.ref (md 0), .int p0]) (n := 8) (Nat.le_of_ble_eq_true rfl)
  generalize (lg_sl ([.ref (md 0), .int p0]) ++ List.replicate (8 - (lg_sl ([.ref (md 0), .int p0])).length) Slot.unset).toArray = ls at hl ⊢
  have hl : lv_has ls 8 [(0, .ref (md 0)), (1, .int p0)] := hl
  have e : Rz = pf_X3_least co ho ve pr rg rp rm rc ro p0 cn tn tk sp ba := hRd.symm
  rw [pf_X3_least] at e
  have hb_231 : ∀ (n_231 : Nat), ∀ (x2 : Int32) (x3 : Int32) (x4 : Int32) (cn : Nat → Int32) (tn : Nat → Int32) (tk : Nat → Int32) (sp : Nat → Int32) (ba : Int32) (H : Heap) (locs : List Loc) (ls : Array Slot), va_P D vwCl (kv_mw ci md th nw co ho ve la pr rg rp rm rc re ro rl cn tn tk sp ba) H → va_D A (kv_mw ci md th nw co ho ve la pr rg rp rm rc re ro rl cn tn tk sp ba) → va_S A s.heap H locs → lv_has ls 8 [(0, .ref (md 0)), (1, .int p0), (2, .int x2), (3, .int x3), (4, .int x4)] → Rz = pf_X3_least_231 co ho ve pr rg rp rm rc ro p0  n_231 x2 x3 x4 cn tn tk sp ba → W p l en rmX3_least s m args below meth c H locs 0 0 Q (F0 m 231 ls []) := by
    intro n_231
    induction n_231 with
    | zero =>
      intro x2 x3 x4 cn tn tk sp ba H locs ls  _ _ _ _ e
      exact absurd e hRz
    | succ n_231 ih_231 =>
      have hb_363 : ∀ (x2 : Int32) (x3 : Int32) (x4 : Int32) (z1 : Int32) (cn : Nat → Int32) (tn : Nat → Int32) (tk : Nat → Int32) (sp : Nat → Int32) (ba : Int32) (H : Heap) (locs : List Loc) (ls : Array Slot), va_P D vwCl (kv_mw ci md th nw co ho ve la pr rg rp rm rc re ro rl cn tn tk sp ba) H → va_D A (kv_mw ci md th nw co ho ve la pr rg rp rm rc re ro rl cn tn tk sp ba) → va_S A s.heap H locs → lv_has ls 8 [(0, .ref (md 0)), (1, .int p0), (2, .int x2), (3, .int x3), (4, .int x4)] → Rz = pf_X3_least_363 co ho ve pr rg rp rm rc ro p0 (pf_X3_least_231 co ho ve pr rg rp rm rc ro p0  n_231) x2 x3 x4 z1 cn tn tk sp ba → W p l en rmX3_least s m args below meth c H locs 0 0 Q (F0 m 363 ls [.int z1, .ref (md 0)]) := by
        intro x2 x3 x4 z1 cn tn tk sp ba H locs ls  hP hD hS hl e
        rw [pf_X3_least_363] at e
        refine va_put (D := D) (ci := 4) (v := .int z1) (ty := .int) (C := RX3) (T := TX3) (N := 19) hx hb hts hinRX3 tyX3 tyX3_ok nmX3 hown hK hP hD hS 0 rfl rfl 18 (by decide) (hts (.fieldLink RX3 106 "LicenceKeeperModel" "bare" "I") (by decide +kernel)) (fun _ h9 => h9) rfl (by decide +kernel) rfl rfl (Nat.le_of_ble_eq_true rfl) dX3_least_363 (fun H locs hP hD hS => ?_)
        have hP : va_P D vwCl (kv_mw ci md th nw co ho ve la pr rg rp rm rc re ro rl cn tn tk sp z1) H := hP
        have hD : va_D A (kv_mw ci md th nw co ho ve la pr rg rp rm rc re ro rl cn tn tk sp z1) := hD
        refine lv_iinc (v := x4 + 1) (lv' := [(4, .int (x4 + 1)), (0, .ref (md 0)), (1, .int p0), (2, .int x2), (3, .int x3)]) hx hb dX3_least_366 hl (k := 4) rfl rfl (by decide) rfl (fun ls hl => ?_)
        refine lv_goto (tgt := 231) hx hb dX3_least_369 (by decide) ?_
        exact ih_231 x2 x3 (x4 + 1) cn tn tk sp z1  _ _ _ hP hD hS (lv_sub hl [1, 2, 3, 4, 0] rfl) e
      have hb_347 : ∀ (x2 : Int32) (x4 : Int32) (x5 : Int32) (x7 : Int32) (z0 : Int32) (cn : Nat → Int32) (tn : Nat → Int32) (tk : Nat → Int32) (sp : Nat → Int32) (ba : Int32) (H : Heap) (locs : List Loc) (ls : Array Slot), va_P D vwCl (kv_mw ci md th nw co ho ve la pr rg rp rm rc re ro rl cn tn tk sp ba) H → va_D A (kv_mw ci md th nw co ho ve la pr rg rp rm rc re ro rl cn tn tk sp ba) → va_S A s.heap H locs → lv_has ls 8 [(0, .ref (md 0)), (1, .int p0), (2, .int x2), (4, .int x4), (5, .int x5), (7, .int x7)] → Rz = pf_X3_least_347 co ho ve pr rg rp rm rc ro p0 (pf_X3_least_231 co ho ve pr rg rp rm rc ro p0  n_231) x2 x4 x5 x7 z0 cn tn tk sp ba → W p l en rmX3_least s m args below meth c H locs 0 0 Q (F0 m 347 ls [.int z0]) := by
        intro x2 x4 x5 x7 z0 cn tn tk sp ba H locs ls  hP hD hS hl e
        rw [pf_X3_least_347] at e
        refine lv_istore_n (lv' := [(3, .int z0), (0, .ref (md 0)), (1, .int p0), (2, .int x2), (4, .int x4), (5, .int x5), (7, .int x7)]) hx hb dX3_least_347 rfl hl (by decide) rfl (fun ls hl => ?_)
        refine lv_aload_n hx hb dX3_least_348 rfl (lv_at hl 1 rfl) ?_
        refine lv_iload hx hb dX3_least_349 (lv_at hl 6 rfl) ?_
        refine lv_if_eq (tgt := 359) hx hb dX3_least_351 (by decide) (fun c_351 => ?_) (fun c_351 => ?_)
        · have e := e.trans (if_pos c_351)
          refine lv_aload_n hx hb dX3_least_359 rfl (lv_at hl 1 rfl) ?_
          refine va_get (D := D) (ci := 4) (v := .int ba) (C := RX3) (T := TX3) (N := 19) hx hb hts hinRX3 hown hK hP 0 rfl rfl 18 (by decide) (hts (.fieldLink RX3 106 "LicenceKeeperModel" "bare" "I") (by decide +kernel)) (fun _ h9 => h9) rfl dX3_least_360 ?_
          exact hb_363 x2 z0 x4 ba cn tn tk sp ba  _ _ _ hP hD hS (lv_sub hl [1, 2, 3, 0, 4] rfl) e
        · have e := e.trans (if_neg c_351)
          refine lv_iload hx hb dX3_least_354 (lv_at hl 5 rfl) ?_
          refine lv_goto (tgt := 363) hx hb dX3_least_356 (by decide) ?_
          exact hb_363 x2 z0 x4 x5 cn tn tk sp ba  _ _ _ hP hD hS (lv_sub hl [1, 2, 3, 0, 4] rfl) e
      have hb_334 : ∀ (x2 : Int32) (x3 : Int32) (x4 : Int32) (x5 : Int32) (x6 : Int32) (z0 : Int32) (cn : Nat → Int32) (tn : Nat → Int32) (tk : Nat → Int32) (sp : Nat → Int32) (ba : Int32) (H : Heap) (locs : List Loc) (ls : Array Slot), va_P D vwCl (kv_mw ci md th nw co ho ve la pr rg rp rm rc re ro rl cn tn tk sp ba) H → va_D A (kv_mw ci md th nw co ho ve la pr rg rp rm rc re ro rl cn tn tk sp ba) → va_S A s.heap H locs → lv_has ls 8 [(0, .ref (md 0)), (1, .int p0), (2, .int x2), (3, .int x3), (4, .int x4), (5, .int x5), (6, .int x6)] → Rz = pf_X3_least_334 co ho ve pr rg rp rm rc ro p0 (pf_X3_least_231 co ho ve pr rg rp rm rc ro p0  n_231) x2 x3 x4 x5 x6 z0 cn tn tk sp ba → W p l en rmX3_least s m args below meth c H locs 0 0 Q (F0 m 334 ls [.int z0]) := by
        intro x2 x3 x4 x5 x6 z0 cn tn tk sp ba H locs ls  hP hD hS hl e
        rw [pf_X3_least_334] at e
        refine lv_istore (lv' := [(7, .int z0), (0, .ref (md 0)), (1, .int p0), (2, .int x2), (3, .int x3), (4, .int x4), (5, .int x5), (6, .int x6)]) hx hb dX3_least_334 hl (by decide) rfl (fun ls hl => ?_)
        refine lv_iload hx hb dX3_least_336 (lv_at hl 0 rfl) ?_
        refine lv_if_eq (tgt := 346) hx hb dX3_least_338 (by decide) (fun c_338 => ?_) (fun c_338 => ?_)
        · have e := e.trans (if_pos c_338)
          refine lv_iload_n hx hb dX3_least_346 rfl (lv_at hl 4 rfl) ?_
          exact hb_347 x2 x4 x5 z0 x3 cn tn tk sp ba  _ _ _ hP hD hS (lv_sub hl [1, 2, 3, 5, 6, 0] rfl) e
        · have e := e.trans (if_neg c_338)
          refine lv_iload hx hb dX3_least_341 (lv_at hl 7 rfl) ?_
          refine lv_goto (tgt := 347) hx hb dX3_least_343 (by decide) ?_
          exact hb_347 x2 x4 x5 z0 x6 cn tn tk sp ba  _ _ _ hP hD hS (lv_sub hl [1, 2, 3, 5, 6, 0] rfl) e
      have hb_253 : ∀ (n_253 : Nat), ∀ (x2 : Int32) (x3 : Int32) (x4 : Int32) (x5 : Int32) (x6 : Int32) (x7 : Int32) (cn : Nat → Int32) (tn : Nat → Int32) (tk : Nat → Int32) (sp : Nat → Int32) (ba : Int32) (H : Heap) (locs : List Loc) (ls : Array Slot), va_P D vwCl (kv_mw ci md th nw co ho ve la pr rg rp rm rc re ro rl cn tn tk sp ba) H → va_D A (kv_mw ci md th nw co ho ve la pr rg rp rm rc re ro rl cn tn tk sp ba) → va_S A s.heap H locs → lv_has ls 8 [(0, .ref (md 0)), (1, .int p0), (2, .int x2), (3, .int x3), (4, .int x4), (5, .int x5), (6, .int x6), (7, .int x7)] → Rz = pf_X3_least_253 co ho ve pr rg rp rm rc ro p0 (pf_X3_least_231 co ho ve pr rg rp rm rc ro p0  n_231) n_253 x2 x3 x4 x5 x6 x7 cn tn tk sp ba → W p l en rmX3_least s m args below meth c H locs 0 0 Q (F0 m 253 ls []) := by
        intro n_253
        induction n_253 with
        | zero =>
          intro x2 x3 x4 x5 x6 x7 cn tn tk sp ba H locs ls  _ _ _ _ e
          exact absurd e hRz
        | succ n_253 ih_253 =>
          have hb_284 : ∀ (x2 : Int32) (x3 : Int32) (x4 : Int32) (x5 : Int32) (x7 : Int32) (z0 : Int32) (z1 : Int32) (cn : Nat → Int32) (tn : Nat → Int32) (tk : Nat → Int32) (sp : Nat → Int32) (ba : Int32) (H : Heap) (locs : List Loc) (ls : Array Slot), va_P D vwCl (kv_mw ci md th nw co ho ve la pr rg rp rm rc re ro rl cn tn tk sp ba) H → va_D A (kv_mw ci md th nw co ho ve la pr rg rp rm rc re ro rl cn tn tk sp ba) → va_S A s.heap H locs → lv_has ls 8 [(0, .ref (md 0)), (1, .int p0), (2, .int x2), (3, .int x3), (4, .int x4), (5, .int x5), (7, .int x7)] → Rz = pf_X3_least_284 co ho ve pr rg rp rm rc ro p0 (pf_X3_least_231 co ho ve pr rg rp rm rc ro p0  n_231) (pf_X3_least_253 co ho ve pr rg rp rm rc ro p0 (pf_X3_least_231 co ho ve pr rg rp rm rc ro p0  n_231) n_253) x2 x3 x4 x5 x7 z0 z1 cn tn tk sp ba → W p l en rmX3_least s m args below meth c H locs 0 0 Q (F0 m 284 ls [.int z1, .int z0]) := by
            intro x2 x3 x4 x5 x7 z0 z1 cn tn tk sp ba H locs ls  hP hD hS hl e
            rw [pf_X3_least_284] at e
            refine lv_iadd hx hb dX3_least_284 ?_
            refine lv_topi (fun y_285 ey_285 => ?_)
            have e := kv_T_e e ey_285
            refine lv_istore (lv' := [(6, .int y_285), (0, .ref (md 0)), (1, .int p0), (2, .int x2), (3, .int x3), (4, .int x4), (5, .int x5), (7, .int x7)]) hx hb dX3_least_285 hl (by decide) rfl (fun ls hl => ?_)
            refine lv_iinc (v := x7 + 1) (lv' := [(7, .int (x7 + 1)), (6, .int y_285), (0, .ref (md 0)), (1, .int p0), (2, .int x2), (3, .int x3), (4, .int x4), (5, .int x5)]) hx hb dX3_least_287 hl (k := 7) rfl rfl (by decide) rfl (fun ls hl => ?_)
            refine lv_goto (tgt := 253) hx hb dX3_least_290 (by decide) ?_
            exact ih_253 x2 x3 x4 x5 y_285 (x7 + 1) cn tn tk sp ba  _ _ _ hP hD hS (lv_sub hl [2, 3, 4, 5, 6, 7, 1, 0] rfl) e
          intro x2 x3 x4 x5 x6 x7 cn tn tk sp ba H locs ls  hP hD hS hl e
          rw [pf_X3_least_253, pf_X3_least_253b] at e
          refine lv_iload hx hb dX3_least_253 (lv_at hl 7 rfl) ?_
          refine lv_bipush (v := 8) hx hb dX3_least_255 (by decide) ?_
          refine lv_icmp_ge (tgt := 293) hx hb dX3_least_257 (by decide) (fun c_257 => ?_) (fun c_257 => ?_)
          · have e := e.trans (if_pos c_257)
            refine lv_aload_n hx hb dX3_least_293 rfl (lv_at hl 0 rfl) ?_
            refine va_get (D := D) (ci := 4) (v := .ref (md 12)) (C := RX3) (T := TX3) (N := 19) hx hb hts hinRX3 hown hK hP 0 rfl rfl 14 (by decide) (hts (.fieldLink RX3 43 "LicenceKeeperModel" "can" "[Z") (by decide +kernel)) (fun _ h9 => h9) rfl dX3_least_294 ?_
            refine lv_iload hx hb dX3_least_297 (lv_at hl 4 rfl) ?_
            obtain ⟨hi_299, e⟩ := kv_G_e e hRz
            refine kv_zald hx hb hK hP 12 1 hi_299 dX3_least_299 rfl rfl (fun y_299 ey_299 => ?_)
            have e := kv_T_e e ey_299
            refine lv_if_eq (tgt := 333) hx hb dX3_least_300 (by decide) (fun c_300 => ?_) (fun c_300 => ?_)
            · have e := e.trans (if_pos c_300)
              refine lv_iconst (v := 0) hx hb dX3_least_333 (by decide) ?_
              exact hb_334 x2 x3 x4 x5 x6 0 cn tn tk sp ba  _ _ _ hP hD hS (lv_sub hl [0, 1, 2, 3, 4, 5, 6] rfl) e
            · have e := e.trans (if_neg c_300)
              refine lv_iload_n hx hb dX3_least_303 rfl (lv_at hl 3 rfl) ?_
              refine lv_iconst (v := (-1)) hx hb dX3_least_304 (by decide) ?_
              refine lv_icmp_eq (tgt := 329) hx hb dX3_least_305 (by decide) (fun c_305 => ?_) (fun c_305 => ?_)
              · have e := e.trans (if_pos c_305)
                refine lv_iconst (v := 1) hx hb dX3_least_329 (by decide) ?_
                refine lv_goto (tgt := 334) hx hb dX3_least_330 (by decide) ?_
                exact hb_334 x2 x3 x4 x5 x6 1 cn tn tk sp ba  _ _ _ hP hD hS (lv_sub hl [0, 1, 2, 3, 4, 5, 6] rfl) e
              · have e := e.trans (if_neg c_305)
                refine lv_iload hx hb dX3_least_308 (lv_at hl 6 rfl) ?_
                refine lv_iload_n hx hb dX3_least_310 rfl (lv_at hl 3 rfl) ?_
                refine lv_icmp_lt (tgt := 329) hx hb dX3_least_311 (by decide) (fun c_311 => ?_) (fun c_311 => ?_)
                · have e := e.trans (if_pos c_311)
                  refine lv_iconst (v := 1) hx hb dX3_least_329 (by decide) ?_
                  refine lv_goto (tgt := 334) hx hb dX3_least_330 (by decide) ?_
                  exact hb_334 x2 x3 x4 x5 x6 1 cn tn tk sp ba  _ _ _ hP hD hS (lv_sub hl [0, 1, 2, 3, 4, 5, 6] rfl) e
                · have e := e.trans (if_neg c_311)
                  refine lv_iload hx hb dX3_least_314 (lv_at hl 6 rfl) ?_
                  refine lv_iload_n hx hb dX3_least_316 rfl (lv_at hl 3 rfl) ?_
                  refine lv_icmp_ne (tgt := 333) hx hb dX3_least_317 (by decide) (fun c_317 => ?_) (fun c_317 => ?_)
                  · have e := e.trans (if_neg c_317)
                    refine lv_iconst (v := 0) hx hb dX3_least_333 (by decide) ?_
                    exact hb_334 x2 x3 x4 x5 x6 0 cn tn tk sp ba  _ _ _ hP hD hS (lv_sub hl [0, 1, 2, 3, 4, 5, 6] rfl) e
                  · have e := e.trans (if_pos c_317)
                    refine lv_iload hx hb dX3_least_320 (lv_at hl 5 rfl) ?_
                    refine lv_aload_n hx hb dX3_least_322 rfl (lv_at hl 0 rfl) ?_
                    refine va_get (D := D) (ci := 4) (v := .int ba) (C := RX3) (T := TX3) (N := 19) hx hb hts hinRX3 hown hK hP 0 rfl rfl 18 (by decide) (hts (.fieldLink RX3 106 "LicenceKeeperModel" "bare" "I") (by decide +kernel)) (fun _ h9 => h9) rfl dX3_least_323 ?_
                    refine lv_icmp_ge (tgt := 333) hx hb dX3_least_326 (by decide) (fun c_326 => ?_) (fun c_326 => ?_)
                    · have e := e.trans (if_pos c_326)
                      refine lv_iconst (v := 0) hx hb dX3_least_333 (by decide) ?_
                      exact hb_334 x2 x3 x4 x5 x6 0 cn tn tk sp ba  _ _ _ hP hD hS (lv_sub hl [0, 1, 2, 3, 4, 5, 6] rfl) e
                    · have e := e.trans (if_neg c_326)
                      refine lv_iconst (v := 1) hx hb dX3_least_329 (by decide) ?_
                      refine lv_goto (tgt := 334) hx hb dX3_least_330 (by decide) ?_
                      exact hb_334 x2 x3 x4 x5 x6 1 cn tn tk sp ba  _ _ _ hP hD hS (lv_sub hl [0, 1, 2, 3, 4, 5, 6] rfl) e
          · have e := e.trans (if_neg c_257)
            refine lv_iload hx hb dX3_least_260 (lv_at hl 6 rfl) ?_
            refine lv_iload hx hb dX3_least_262 (lv_at hl 5 rfl) ?_
            refine lv_iload hx hb dX3_least_264 (lv_at hl 7 rfl) ?_
            refine lv_ishr hx hb dX3_least_266 ?_
            refine lv_iconst (v := 1) hx hb dX3_least_267 (by decide) ?_
            refine lv_iand hx hb dX3_least_268 ?_
            refine lv_iconst (v := 1) hx hb dX3_least_269 (by decide) ?_
            refine lv_icmp_ne (tgt := 283) hx hb dX3_least_270 (by decide) (fun c_270 => ?_) (fun c_270 => ?_)
            · have e := e.trans (if_neg c_270)
              refine lv_iconst (v := 0) hx hb dX3_least_283 (by decide) ?_
              exact hb_284 x2 x3 x4 x5 x7 x6 0 cn tn tk sp ba  _ _ _ hP hD hS (lv_sub hl [0, 1, 2, 3, 4, 5, 7] rfl) e
            · have e := e.trans (if_pos c_270)
              refine lv_aload_n hx hb dX3_least_273 rfl (lv_at hl 0 rfl) ?_
              refine lv_iload hx hb dX3_least_274 (lv_at hl 7 rfl) ?_
              refine lv_iload_n hx hb dX3_least_276 rfl (lv_at hl 1 rfl) ?_
              refine kv_calli (va_runV (As := [.int x7, .int p0]) (rest := [.int x6]) ⟨hx, hb, hml, hown, hts⟩ (c_X3_weighs l D ci md th nw co ho ve la pr rg rp rm rc re ro rl cn tn tk sp ba x7 p0 (kv_q1_n e hRz) H.size) (cwV 2 hts gX3_least_X3_weighs rfl rfl rfl (by decide +kernel) ⟨Nat.le_of_ble_eq_true rfl, Nat.le_of_ble_eq_true rfl⟩) (kv_preV hK hP hD (r := (RX3, TX3, 19)) (q0 := 0) (k := 4) rfl rfl rfl) rfl rfl hl.1 rfl (lv_room (Nat.le_of_ble_eq_true rfl)) dX3_least_277 ⟨Nat.le_of_ble_eq_true rfl, Nat.le_of_ble_eq_true rfl⟩) hD hS hA (fun r_277 u_277 H locs hw_277 hP hD hS => ?_)
              have e := kv_q1_e e hw_277
              refine lv_goto (tgt := 284) hx hb dX3_least_280 (by decide) ?_
              exact hb_284 x2 x3 x4 x5 x7 x6 r_277 cn tn tk sp ba  _ _ _ hP hD hS (lv_sub hl [0, 1, 2, 3, 4, 5, 7] rfl) e
      intro x2 x3 x4 cn tn tk sp ba H locs ls  hP hD hS hl e
      rw [pf_X3_least_231, pf_X3_least_231b] at e
      refine lv_iload hx hb dX3_least_231 (lv_at hl 4 rfl) ?_
      refine lv_sipush (v := 256) hx hb dX3_least_233 (by decide) ?_
      refine lv_icmp_ge (tgt := 372) hx hb dX3_least_236 (by decide) (fun c_236 => ?_) (fun c_236 => ?_)
      · have e := e.trans (if_pos c_236)
        refine lv_iload_n hx hb dX3_least_372 rfl (lv_at hl 3 rfl) ?_
        rw [hQ]
        exact W.iret (v := x3) hx hb hr (fun t ht hW => ⟨⟨x3, (cn, tn, tk, sp, ba), rfl, e, ⟨by rw [ht]; exact hP, by rw [hAe]; exact hD⟩⟩, hS.F ht⟩) hS.2.2 dX3_least_373
      · have e := e.trans (if_neg c_236)
        refine lv_iload_n hx hb dX3_least_239 rfl (lv_at hl 2 rfl) ?_
        refine lv_iload hx hb dX3_least_240 (lv_at hl 4 rfl) ?_
        refine lv_iconst (v := (-1)) hx hb dX3_least_242 (by decide) ?_
        refine lv_ixor hx hb dX3_least_243 ?_
        refine lv_iand hx hb dX3_least_244 ?_
        refine lv_topi (fun y_245 ey_245 => ?_)
        have e := kv_T_e e ey_245
        refine lv_istore (lv' := [(5, .int y_245), (0, .ref (md 0)), (1, .int p0), (2, .int x2), (3, .int x3), (4, .int x4)]) hx hb dX3_least_245 hl (by decide) rfl (fun ls hl => ?_)
        refine lv_iconst (v := 0) hx hb dX3_least_247 (by decide) ?_
        refine lv_istore (lv' := [(6, .int 0), (5, .int y_245), (0, .ref (md 0)), (1, .int p0), (2, .int x2), (3, .int x3), (4, .int x4)]) hx hb dX3_least_248 hl (by decide) rfl (fun ls hl => ?_)
        refine lv_iconst (v := 0) hx hb dX3_least_250 (by decide) ?_
        refine lv_istore (lv' := [(7, .int 0), (6, .int 0), (5, .int y_245), (0, .ref (md 0)), (1, .int p0), (2, .int x2), (3, .int x3), (4, .int x4)]) hx hb dX3_least_251 hl (by decide) rfl (fun ls hl => ?_)
        exact hb_253 kv_F x2 x3 x4 y_245 0 0 cn tn tk sp ba  _ _ _ hP hD hS (lv_sub hl [3, 4, 5, 6, 7, 2, 1, 0] rfl) e
  have hb_191 : ∀ (n_191 : Nat), ∀ (x2 : Int32) (x3 : Int32) (cn : Nat → Int32) (tn : Nat → Int32) (tk : Nat → Int32) (sp : Nat → Int32) (ba : Int32) (H : Heap) (locs : List Loc) (ls : Array Slot), va_P D vwCl (kv_mw ci md th nw co ho ve la pr rg rp rm rc re ro rl cn tn tk sp ba) H → va_D A (kv_mw ci md th nw co ho ve la pr rg rp rm rc re ro rl cn tn tk sp ba) → va_S A s.heap H locs → lv_has ls 8 [(0, .ref (md 0)), (1, .int p0), (2, .int x2), (3, .int x3)] → Rz = pf_X3_least_191 co ho ve pr rg rp rm rc ro p0  n_191 x2 x3 cn tn tk sp ba → W p l en rmX3_least s m args below meth c H locs 0 0 Q (F0 m 191 ls []) := by
    intro n_191
    induction n_191 with
    | zero =>
      intro x2 x3 cn tn tk sp ba H locs ls  _ _ _ _ e
      exact absurd e hRz
    | succ n_191 ih_191 =>
      have hb_218 : ∀ (x3 : Int32) (z0 : Int32) (z1 : Int32) (cn : Nat → Int32) (tn : Nat → Int32) (tk : Nat → Int32) (sp : Nat → Int32) (ba : Int32) (H : Heap) (locs : List Loc) (ls : Array Slot), va_P D vwCl (kv_mw ci md th nw co ho ve la pr rg rp rm rc re ro rl cn tn tk sp ba) H → va_D A (kv_mw ci md th nw co ho ve la pr rg rp rm rc re ro rl cn tn tk sp ba) → va_S A s.heap H locs → lv_has ls 8 [(0, .ref (md 0)), (1, .int p0), (3, .int x3)] → Rz = pf_X3_least_218 co ho ve pr rg rp rm rc ro p0 (pf_X3_least_191 co ho ve pr rg rp rm rc ro p0  n_191) x3 z0 z1 cn tn tk sp ba → W p l en rmX3_least s m args below meth c H locs 0 0 Q (F0 m 218 ls [.int z1, .int z0]) := by
        intro x3 z0 z1 cn tn tk sp ba H locs ls  hP hD hS hl e
        rw [pf_X3_least_218] at e
        refine lv_ior hx hb dX3_least_218 ?_
        refine lv_topi (fun y_219 ey_219 => ?_)
        have e := kv_T_e e ey_219
        refine lv_istore_n (lv' := [(2, .int y_219), (0, .ref (md 0)), (1, .int p0), (3, .int x3)]) hx hb dX3_least_219 rfl hl (by decide) rfl (fun ls hl => ?_)
        refine lv_iinc (v := x3 + 1) (lv' := [(3, .int (x3 + 1)), (2, .int y_219), (0, .ref (md 0)), (1, .int p0)]) hx hb dX3_least_220 hl (k := 3) rfl rfl (by decide) rfl (fun ls hl => ?_)
        refine lv_goto (tgt := 191) hx hb dX3_least_223 (by decide) ?_
        exact ih_191 y_219 (x3 + 1) cn tn tk sp ba  _ _ _ hP hD hS (lv_sub hl [2, 3, 1, 0] rfl) e
      intro x2 x3 cn tn tk sp ba H locs ls  hP hD hS hl e
      rw [pf_X3_least_191, pf_X3_least_191b] at e
      refine lv_iload_n hx hb dX3_least_191 rfl (lv_at hl 3 rfl) ?_
      refine lv_bipush (v := 8) hx hb dX3_least_192 (by decide) ?_
      refine lv_icmp_ge (tgt := 226) hx hb dX3_least_194 (by decide) (fun c_194 => ?_) (fun c_194 => ?_)
      · have e := e.trans (if_pos c_194)
        refine lv_iconst (v := (-1)) hx hb dX3_least_226 (by decide) ?_
        refine lv_istore_n (lv' := [(3, .int (-1)), (0, .ref (md 0)), (1, .int p0), (2, .int x2)]) hx hb dX3_least_227 rfl hl (by decide) rfl (fun ls hl => ?_)
        refine lv_iconst (v := 0) hx hb dX3_least_228 (by decide) ?_
        refine lv_istore (lv' := [(4, .int 0), (3, .int (-1)), (0, .ref (md 0)), (1, .int p0), (2, .int x2)]) hx hb dX3_least_229 hl (by decide) rfl (fun ls hl => ?_)
        exact hb_231 kv_F x2 (-1) 0 cn tn tk sp ba  _ _ _ hP hD hS (lv_sub hl [2, 3, 4, 1, 0] rfl) e
      · have e := e.trans (if_neg c_194)
        refine lv_iload_n hx hb dX3_least_197 rfl (lv_at hl 2 rfl) ?_
        refine lv_aload_n hx hb dX3_least_198 rfl (lv_at hl 0 rfl) ?_
        refine va_get (D := D) (ci := 4) (v := .ref (md 3)) (C := RX3) (T := TX3) (N := 19) hx hb hts hinRX3 hown hK hP 0 rfl rfl 4 (by decide) (hts (.fieldLink RX3 16 "LicenceKeeperModel" "version" "[I") (by decide +kernel)) (fun _ h9 => h9) rfl dX3_least_199 ?_
        refine lv_iconst (v := 4) hx hb dX3_least_202 (by decide) ?_
        refine lv_iload_n hx hb dX3_least_203 rfl (lv_at hl 3 rfl) ?_
        refine lv_imul hx hb dX3_least_204 ?_
        refine lv_iload_n hx hb dX3_least_205 rfl (lv_at hl 1 rfl) ?_
        refine lv_iadd hx hb dX3_least_206 ?_
        obtain ⟨hi_207, e⟩ := kv_G_e e hRz
        refine kv_iald hx hb hK hP 3 0 hi_207 dX3_least_207 rfl rfl (fun y_207 ey_207 => ?_)
        have e := kv_T_e e ey_207
        refine lv_if_le (tgt := 217) hx hb dX3_least_208 (by decide) (fun c_208 => ?_) (fun c_208 => ?_)
        · have e := e.trans (if_pos c_208)
          refine lv_iconst (v := 0) hx hb dX3_least_217 (by decide) ?_
          exact hb_218 x3 x2 0 cn tn tk sp ba  _ _ _ hP hD hS (lv_sub hl [0, 1, 3] rfl) e
        · have e := e.trans (if_neg c_208)
          refine lv_iconst (v := 1) hx hb dX3_least_211 (by decide) ?_
          refine lv_iload_n hx hb dX3_least_212 rfl (lv_at hl 3 rfl) ?_
          refine lv_ishl hx hb dX3_least_213 ?_
          refine lv_goto (tgt := 218) hx hb dX3_least_214 (by decide) ?_
          exact hb_218 x3 x2 (1 <<< (x3 &&& 31)) cn tn tk sp ba  _ _ _ hP hD hS (lv_sub hl [0, 1, 3] rfl) e
  have hb_32 : ∀ (n_32 : Nat), ∀ (x2 : Int32) (cn : Nat → Int32) (tn : Nat → Int32) (tk : Nat → Int32) (sp : Nat → Int32) (ba : Int32) (H : Heap) (locs : List Loc) (ls : Array Slot), va_P D vwCl (kv_mw ci md th nw co ho ve la pr rg rp rm rc re ro rl cn tn tk sp ba) H → va_D A (kv_mw ci md th nw co ho ve la pr rg rp rm rc re ro rl cn tn tk sp ba) → va_S A s.heap H locs → lv_has ls 8 [(0, .ref (md 0)), (1, .int p0), (2, .int x2)] → Rz = pf_X3_least_32 co ho ve pr rg rp rm rc ro p0  n_32 x2 cn tn tk sp ba → W p l en rmX3_least s m args below meth c H locs 0 0 Q (F0 m 32 ls []) := by
    intro n_32
    induction n_32 with
    | zero =>
      intro x2 cn tn tk sp ba H locs ls  _ _ _ _ e
      exact absurd e hRz
    | succ n_32 ih_32 =>
      have hb_156 : ∀ (n_156 : Nat), ∀ (x2 : Int32) (x3 : Int32) (cn : Nat → Int32) (tn : Nat → Int32) (tk : Nat → Int32) (sp : Nat → Int32) (ba : Int32) (H : Heap) (locs : List Loc) (ls : Array Slot), va_P D vwCl (kv_mw ci md th nw co ho ve la pr rg rp rm rc re ro rl cn tn tk sp ba) H → va_D A (kv_mw ci md th nw co ho ve la pr rg rp rm rc re ro rl cn tn tk sp ba) → va_S A s.heap H locs → lv_has ls 8 [(0, .ref (md 0)), (1, .int p0), (2, .int x2), (3, .int x3)] → Rz = pf_X3_least_156 co ho ve pr rg rp rm rc ro p0 (pf_X3_least_32 co ho ve pr rg rp rm rc ro p0  n_32) n_156 x2 x3 cn tn tk sp ba → W p l en rmX3_least s m args below meth c H locs 0 0 Q (F0 m 156 ls []) := by
        intro n_156
        induction n_156 with
        | zero =>
          intro x2 x3 cn tn tk sp ba H locs ls  _ _ _ _ e
          exact absurd e hRz
        | succ n_156 ih_156 =>
          intro x2 x3 cn tn tk sp ba H locs ls  hP hD hS hl e
          rw [pf_X3_least_156, pf_X3_least_156b] at e
          refine lv_iload_n hx hb dX3_least_156 rfl (lv_at hl 3 rfl) ?_
          refine lv_sipush (v := 256) hx hb dX3_least_157 (by decide) ?_
          refine lv_icmp_ge (tgt := 181) hx hb dX3_least_160 (by decide) (fun c_160 => ?_) (fun c_160 => ?_)
          · have e := e.trans (if_pos c_160)
            refine lv_iinc (v := x2 + 1) (lv' := [(2, .int (x2 + 1)), (0, .ref (md 0)), (1, .int p0), (3, .int x3)]) hx hb dX3_least_181 hl (k := 2) rfl rfl (by decide) rfl (fun ls hl => ?_)
            refine lv_goto (tgt := 32) hx hb dX3_least_184 (by decide) ?_
            exact ih_32 (x2 + 1) cn tn tk sp ba  _ _ _ hP hD hS (lv_sub hl [1, 2, 0] rfl) e
          · have e := e.trans (if_neg c_160)
            refine lv_aload_n hx hb dX3_least_163 rfl (lv_at hl 0 rfl) ?_
            refine va_get (D := D) (ci := 4) (v := .ref (md 12)) (C := RX3) (T := TX3) (N := 19) hx hb hts hinRX3 hown hK hP 0 rfl rfl 14 (by decide) (hts (.fieldLink RX3 43 "LicenceKeeperModel" "can" "[Z") (by decide +kernel)) (fun _ h9 => h9) rfl dX3_least_164 ?_
            refine lv_iload_n hx hb dX3_least_167 rfl (lv_at hl 3 rfl) ?_
            refine lv_aload_n hx hb dX3_least_168 rfl (lv_at hl 0 rfl) ?_
            refine va_get (D := D) (ci := 4) (v := .ref (md 13)) (C := RX3) (T := TX3) (N := 19) hx hb hts hinRX3 hown hK hP 0 rfl rfl 15 (by decide) (hts (.fieldLink RX3 47 "LicenceKeeperModel" "then" "[Z") (by decide +kernel)) (fun _ h9 => h9) rfl dX3_least_169 ?_
            refine lv_iload_n hx hb dX3_least_172 rfl (lv_at hl 3 rfl) ?_
            obtain ⟨hi_173, e⟩ := kv_G_e e hRz
            refine kv_zald hx hb hK hP 13 1 hi_173 dX3_least_173 rfl rfl (fun y_173 ey_173 => ?_)
            have e := kv_T_e e ey_173
            obtain ⟨hi_174, e⟩ := kv_G_e e hRz
            refine kv_zast hx hb hK hP hD hS 12 1 (fun g_174 => (kv_mw ci md th nw co ho ve la pr rg rp rm rc re ro rl g_174 tn tk sp ba)) hi_174 dX3_least_174 rfl rfl (fun _ => rfl) (fun g_174 H locs eg_174 hP hD hS => ?_)
            have e := kv_T_e e eg_174
            refine lv_iinc (v := x3 + 1) (lv' := [(3, .int (x3 + 1)), (0, .ref (md 0)), (1, .int p0), (2, .int x2)]) hx hb dX3_least_175 hl (k := 3) rfl rfl (by decide) rfl (fun ls hl => ?_)
            refine lv_goto (tgt := 156) hx hb dX3_least_178 (by decide) ?_
            exact ih_156 x2 (x3 + 1) g_174 tn tk sp ba  _ _ _ hP hD hS (lv_sub hl [1, 2, 3, 0] rfl) e
      have hb_88 : ∀ (n_88 : Nat), ∀ (x2 : Int32) (x3 : Int32) (cn : Nat → Int32) (tn : Nat → Int32) (tk : Nat → Int32) (sp : Nat → Int32) (ba : Int32) (H : Heap) (locs : List Loc) (ls : Array Slot), va_P D vwCl (kv_mw ci md th nw co ho ve la pr rg rp rm rc re ro rl cn tn tk sp ba) H → va_D A (kv_mw ci md th nw co ho ve la pr rg rp rm rc re ro rl cn tn tk sp ba) → va_S A s.heap H locs → lv_has ls 8 [(0, .ref (md 0)), (1, .int p0), (2, .int x2), (3, .int x3)] → Rz = pf_X3_least_88 co ho ve pr rg rp rm rc ro p0 (pf_X3_least_32 co ho ve pr rg rp rm rc ro p0  n_32) n_88 x2 x3 cn tn tk sp ba → W p l en rmX3_least s m args below meth c H locs 0 0 Q (F0 m 88 ls []) := by
        intro n_88
        induction n_88 with
        | zero =>
          intro x2 x3 cn tn tk sp ba H locs ls  _ _ _ _ e
          exact absurd e hRz
        | succ n_88 ih_88 =>
          intro x2 x3 cn tn tk sp ba H locs ls  hP hD hS hl e
          rw [pf_X3_least_88, pf_X3_least_88b] at e
          refine lv_iload_n hx hb dX3_least_88 rfl (lv_at hl 3 rfl) ?_
          refine lv_ldc (v := 65536) hx hb hown (hts (.constant RX3 105 65536) (by decide +kernel)) dX3_least_89 ?_
          refine lv_icmp_ge (tgt := 154) hx hb dX3_least_91 (by decide) (fun c_91 => ?_) (fun c_91 => ?_)
          · have e := e.trans (if_pos c_91)
            refine lv_iconst (v := 0) hx hb dX3_least_154 (by decide) ?_
            refine lv_istore_n (lv' := [(3, .int 0), (0, .ref (md 0)), (1, .int p0), (2, .int x2)]) hx hb dX3_least_155 rfl hl (by decide) rfl (fun ls hl => ?_)
            exact hb_156 kv_F x2 0 cn tn tk sp ba  _ _ _ hP hD hS (lv_sub hl [1, 2, 3, 0] rfl) e
          · have e := e.trans (if_neg c_91)
            refine lv_aload_n hx hb dX3_least_94 rfl (lv_at hl 0 rfl) ?_
            refine va_get (D := D) (ci := 4) (v := .ref (md 12)) (C := RX3) (T := TX3) (N := 19) hx hb hts hinRX3 hown hK hP 0 rfl rfl 14 (by decide) (hts (.fieldLink RX3 43 "LicenceKeeperModel" "can" "[Z") (by decide +kernel)) (fun _ h9 => h9) rfl dX3_least_95 ?_
            refine lv_iload_n hx hb dX3_least_98 rfl (lv_at hl 3 rfl) ?_
            refine lv_sipush (v := 256) hx hb dX3_least_99 (by decide) ?_
            obtain ⟨hz_102, e⟩ := kv_Z_e e hRz
            refine lv_idiv hx hb dX3_least_102 hz_102 ?_
            obtain ⟨hi_103, e⟩ := kv_G_e e hRz
            refine kv_zald hx hb hK hP 12 1 hi_103 dX3_least_103 rfl rfl (fun y_103 ey_103 => ?_)
            have e := kv_T_e e ey_103
            refine lv_if_eq (tgt := 148) hx hb dX3_least_104 (by decide) (fun c_104 => ?_) (fun c_104 => ?_)
            · have e := e.trans (if_pos c_104)
              refine lv_iinc (v := x3 + 1) (lv' := [(3, .int (x3 + 1)), (0, .ref (md 0)), (1, .int p0), (2, .int x2)]) hx hb dX3_least_148 hl (k := 3) rfl rfl (by decide) rfl (fun ls hl => ?_)
              refine lv_goto (tgt := 88) hx hb dX3_least_151 (by decide) ?_
              exact ih_88 x2 (x3 + 1) cn tn tk sp ba  _ _ _ hP hD hS (lv_sub hl [1, 2, 3, 0] rfl) e
            · have e := e.trans (if_neg c_104)
              refine lv_aload_n hx hb dX3_least_107 rfl (lv_at hl 0 rfl) ?_
              refine va_get (D := D) (ci := 4) (v := .ref (md 14)) (C := RX3) (T := TX3) (N := 19) hx hb hts hinRX3 hown hK hP 0 rfl rfl 16 (by decide) (hts (.fieldLink RX3 50 "LicenceKeeperModel" "takes" "[I") (by decide +kernel)) (fun _ h9 => h9) rfl dX3_least_108 ?_
              refine lv_iload_n hx hb dX3_least_111 rfl (lv_at hl 3 rfl) ?_
              refine lv_sipush (v := 256) hx hb dX3_least_112 (by decide) ?_
              obtain ⟨hz_115, e⟩ := kv_Z_e e hRz
              refine lv_irem hx hb dX3_least_115 hz_115 ?_
              obtain ⟨hi_116, e⟩ := kv_G_e e hRz
              refine kv_iald hx hb hK hP 14 0 hi_116 dX3_least_116 rfl rfl (fun y_116 ey_116 => ?_)
              have e := kv_T_e e ey_116
              refine lv_aload_n hx hb dX3_least_117 rfl (lv_at hl 0 rfl) ?_
              refine va_get (D := D) (ci := 4) (v := .ref (md 8)) (C := RX3) (T := TX3) (N := 19) hx hb hts hinRX3 hown hK hP 0 rfl rfl 10 (by decide) (hts (.fieldLink RX3 31 "LicenceKeeperModel" "count" "[I") (by decide +kernel)) (fun _ h9 => h9) rfl dX3_least_118 ?_
              refine lv_iload_n hx hb dX3_least_121 rfl (lv_at hl 2 rfl) ?_
              obtain ⟨hi_122, e⟩ := kv_G_e e hRz
              refine kv_iald hx hb hK hP 8 0 hi_122 dX3_least_122 rfl rfl (fun y_122 ey_122 => ?_)
              have e := kv_T_e e ey_122
              refine lv_icmp_gt (tgt := 148) hx hb dX3_least_123 (by decide) (fun c_123 => ?_) (fun c_123 => ?_)
              · have e := e.trans (if_pos c_123)
                refine lv_iinc (v := x3 + 1) (lv' := [(3, .int (x3 + 1)), (0, .ref (md 0)), (1, .int p0), (2, .int x2)]) hx hb dX3_least_148 hl (k := 3) rfl rfl (by decide) rfl (fun ls hl => ?_)
                refine lv_goto (tgt := 88) hx hb dX3_least_151 (by decide) ?_
                exact ih_88 x2 (x3 + 1) cn tn tk sp ba  _ _ _ hP hD hS (lv_sub hl [1, 2, 3, 0] rfl) e
              · have e := e.trans (if_neg c_123)
                refine lv_aload_n hx hb dX3_least_126 rfl (lv_at hl 0 rfl) ?_
                refine va_get (D := D) (ci := 4) (v := .ref (md 13)) (C := RX3) (T := TX3) (N := 19) hx hb hts hinRX3 hown hK hP 0 rfl rfl 15 (by decide) (hts (.fieldLink RX3 47 "LicenceKeeperModel" "then" "[Z") (by decide +kernel)) (fun _ h9 => h9) rfl dX3_least_127 ?_
                refine lv_iload_n hx hb dX3_least_130 rfl (lv_at hl 3 rfl) ?_
                refine lv_sipush (v := 256) hx hb dX3_least_131 (by decide) ?_
                obtain ⟨hz_134, e⟩ := kv_Z_e e hRz
                refine lv_idiv hx hb dX3_least_134 hz_134 ?_
                refine lv_aload_n hx hb dX3_least_135 rfl (lv_at hl 0 rfl) ?_
                refine va_get (D := D) (ci := 4) (v := .ref (md 15)) (C := RX3) (T := TX3) (N := 19) hx hb hts hinRX3 hown hK hP 0 rfl rfl 17 (by decide) (hts (.fieldLink RX3 53 "LicenceKeeperModel" "spread" "[I") (by decide +kernel)) (fun _ h9 => h9) rfl dX3_least_136 ?_
                refine lv_iload_n hx hb dX3_least_139 rfl (lv_at hl 3 rfl) ?_
                refine lv_sipush (v := 256) hx hb dX3_least_140 (by decide) ?_
                obtain ⟨hz_143, e⟩ := kv_Z_e e hRz
                refine lv_irem hx hb dX3_least_143 hz_143 ?_
                obtain ⟨hi_144, e⟩ := kv_G_e e hRz
                refine kv_iald hx hb hK hP 15 0 hi_144 dX3_least_144 rfl rfl (fun y_144 ey_144 => ?_)
                have e := kv_T_e e ey_144
                refine lv_ior hx hb dX3_least_145 ?_
                refine lv_iconst (v := 1) hx hb dX3_least_146 (by decide) ?_
                obtain ⟨hi_147, e⟩ := kv_G_e e hRz
                refine kv_zast hx hb hK hP hD hS 13 1 (fun g_147 => (kv_mw ci md th nw co ho ve la pr rg rp rm rc re ro rl cn g_147 tk sp ba)) hi_147 dX3_least_147 rfl rfl (fun _ => rfl) (fun g_147 H locs eg_147 hP hD hS => ?_)
                have e := kv_T_e e eg_147
                refine lv_iinc (v := x3 + 1) (lv' := [(3, .int (x3 + 1)), (0, .ref (md 0)), (1, .int p0), (2, .int x2)]) hx hb dX3_least_148 hl (k := 3) rfl rfl (by decide) rfl (fun ls hl => ?_)
                refine lv_goto (tgt := 88) hx hb dX3_least_151 (by decide) ?_
                exact ih_88 x2 (x3 + 1) cn g_147 tk sp ba  _ _ _ hP hD hS (lv_sub hl [1, 2, 3, 0] rfl) e
      have hb_66 : ∀ (n_66 : Nat), ∀ (x2 : Int32) (x3 : Int32) (cn : Nat → Int32) (tn : Nat → Int32) (tk : Nat → Int32) (sp : Nat → Int32) (ba : Int32) (H : Heap) (locs : List Loc) (ls : Array Slot), va_P D vwCl (kv_mw ci md th nw co ho ve la pr rg rp rm rc re ro rl cn tn tk sp ba) H → va_D A (kv_mw ci md th nw co ho ve la pr rg rp rm rc re ro rl cn tn tk sp ba) → va_S A s.heap H locs → lv_has ls 8 [(0, .ref (md 0)), (1, .int p0), (2, .int x2), (3, .int x3)] → Rz = pf_X3_least_66 co ho ve pr rg rp rm rc ro p0 (pf_X3_least_32 co ho ve pr rg rp rm rc ro p0  n_32) n_66 x2 x3 cn tn tk sp ba → W p l en rmX3_least s m args below meth c H locs 0 0 Q (F0 m 66 ls []) := by
        intro n_66
        induction n_66 with
        | zero =>
          intro x2 x3 cn tn tk sp ba H locs ls  _ _ _ _ e
          exact absurd e hRz
        | succ n_66 ih_66 =>
          intro x2 x3 cn tn tk sp ba H locs ls  hP hD hS hl e
          rw [pf_X3_least_66, pf_X3_least_66b] at e
          refine lv_iload_n hx hb dX3_least_66 rfl (lv_at hl 3 rfl) ?_
          refine lv_sipush (v := 256) hx hb dX3_least_67 (by decide) ?_
          refine lv_icmp_ge (tgt := 86) hx hb dX3_least_70 (by decide) (fun c_70 => ?_) (fun c_70 => ?_)
          · have e := e.trans (if_pos c_70)
            refine lv_iconst (v := 0) hx hb dX3_least_86 (by decide) ?_
            refine lv_istore_n (lv' := [(3, .int 0), (0, .ref (md 0)), (1, .int p0), (2, .int x2)]) hx hb dX3_least_87 rfl hl (by decide) rfl (fun ls hl => ?_)
            exact hb_88 kv_F x2 0 cn tn tk sp ba  _ _ _ hP hD hS (lv_sub hl [1, 2, 3, 0] rfl) e
          · have e := e.trans (if_neg c_70)
            refine lv_aload_n hx hb dX3_least_73 rfl (lv_at hl 0 rfl) ?_
            refine va_get (D := D) (ci := 4) (v := .ref (md 13)) (C := RX3) (T := TX3) (N := 19) hx hb hts hinRX3 hown hK hP 0 rfl rfl 15 (by decide) (hts (.fieldLink RX3 47 "LicenceKeeperModel" "then" "[Z") (by decide +kernel)) (fun _ h9 => h9) rfl dX3_least_74 ?_
            refine lv_iload_n hx hb dX3_least_77 rfl (lv_at hl 3 rfl) ?_
            refine lv_iconst (v := 0) hx hb dX3_least_78 (by decide) ?_
            obtain ⟨hi_79, e⟩ := kv_G_e e hRz
            refine kv_zast hx hb hK hP hD hS 13 1 (fun g_79 => (kv_mw ci md th nw co ho ve la pr rg rp rm rc re ro rl cn g_79 tk sp ba)) hi_79 dX3_least_79 rfl rfl (fun _ => rfl) (fun g_79 H locs eg_79 hP hD hS => ?_)
            have e := kv_T_e e eg_79
            refine lv_iinc (v := x3 + 1) (lv' := [(3, .int (x3 + 1)), (0, .ref (md 0)), (1, .int p0), (2, .int x2)]) hx hb dX3_least_80 hl (k := 3) rfl rfl (by decide) rfl (fun ls hl => ?_)
            refine lv_goto (tgt := 66) hx hb dX3_least_83 (by decide) ?_
            exact ih_66 x2 (x3 + 1) cn g_79 tk sp ba  _ _ _ hP hD hS (lv_sub hl [1, 2, 3, 0] rfl) e
      intro x2 cn tn tk sp ba H locs ls  hP hD hS hl e
      rw [pf_X3_least_32, pf_X3_least_32b] at e
      refine lv_iload_n hx hb dX3_least_32 rfl (lv_at hl 2 rfl) ?_
      refine lv_aload_n hx hb dX3_least_33 rfl (lv_at hl 0 rfl) ?_
      refine va_get (D := D) (ci := 4) (v := .int rg) (C := RX3) (T := TX3) (N := 19) hx hb hts hinRX3 hown hK hP 0 rfl rfl 7 (by decide) (hts (.fieldLink RX3 64 "LicenceKeeperModel" "rights" "I") (by decide +kernel)) (fun _ h9 => h9) rfl dX3_least_34 ?_
      refine lv_icmp_ge (tgt := 187) hx hb dX3_least_37 (by decide) (fun c_37 => ?_) (fun c_37 => ?_)
      · have e := e.trans (if_pos c_37)
        refine lv_iconst (v := 0) hx hb dX3_least_187 (by decide) ?_
        refine lv_istore_n (lv' := [(2, .int 0), (0, .ref (md 0)), (1, .int p0)]) hx hb dX3_least_188 rfl hl (by decide) rfl (fun ls hl => ?_)
        refine lv_iconst (v := 0) hx hb dX3_least_189 (by decide) ?_
        refine lv_istore_n (lv' := [(3, .int 0), (2, .int 0), (0, .ref (md 0)), (1, .int p0)]) hx hb dX3_least_190 rfl hl (by decide) rfl (fun ls hl => ?_)
        exact hb_191 kv_F 0 0 cn tn tk sp ba  _ _ _ hP hD hS (lv_sub hl [2, 3, 1, 0] rfl) e
      · have e := e.trans (if_neg c_37)
        refine lv_aload_n hx hb dX3_least_40 rfl (lv_at hl 0 rfl) ?_
        refine va_get (D := D) (ci := 4) (v := .ref (md 6)) (C := RX3) (T := TX3) (N := 19) hx hb hts hinRX3 hown hK hP 0 rfl rfl 8 (by decide) (hts (.fieldLink RX3 25 "LicenceKeeperModel" "product" "[I") (by decide +kernel)) (fun _ h9 => h9) rfl dX3_least_41 ?_
        refine lv_iload_n hx hb dX3_least_44 rfl (lv_at hl 2 rfl) ?_
        obtain ⟨hi_45, e⟩ := kv_G_e e hRz
        refine kv_iald hx hb hK hP 6 0 hi_45 dX3_least_45 rfl rfl (fun y_45 ey_45 => ?_)
        have e := kv_T_e e ey_45
        refine lv_iload_n hx hb dX3_least_46 rfl (lv_at hl 1 rfl) ?_
        refine lv_icmp_ne (tgt := 181) hx hb dX3_least_47 (by decide) (fun c_47 => ?_) (fun c_47 => ?_)
        · have e := e.trans (if_neg c_47)
          refine lv_iinc (v := x2 + 1) (lv' := [(2, .int (x2 + 1)), (0, .ref (md 0)), (1, .int p0)]) hx hb dX3_least_181 hl (k := 2) rfl rfl (by decide) rfl (fun ls hl => ?_)
          refine lv_goto (tgt := 32) hx hb dX3_least_184 (by decide) ?_
          exact ih_32 (x2 + 1) cn tn tk sp ba  _ _ _ hP hD hS (lv_sub hl [1, 2, 0] rfl) e
        · have e := e.trans (if_pos c_47)
          refine lv_aload_n hx hb dX3_least_50 rfl (lv_at hl 0 rfl) ?_
          refine va_get (D := D) (ci := 4) (v := .ref (md 8)) (C := RX3) (T := TX3) (N := 19) hx hb hts hinRX3 hown hK hP 0 rfl rfl 10 (by decide) (hts (.fieldLink RX3 31 "LicenceKeeperModel" "count" "[I") (by decide +kernel)) (fun _ h9 => h9) rfl dX3_least_51 ?_
          refine lv_iload_n hx hb dX3_least_54 rfl (lv_at hl 2 rfl) ?_
          obtain ⟨hi_55, e⟩ := kv_G_e e hRz
          refine kv_iald hx hb hK hP 8 0 hi_55 dX3_least_55 rfl rfl (fun y_55 ey_55 => ?_)
          have e := kv_T_e e ey_55
          refine lv_if_le (tgt := 181) hx hb dX3_least_56 (by decide) (fun c_56 => ?_) (fun c_56 => ?_)
          · have e := e.trans (if_pos c_56)
            refine lv_iinc (v := x2 + 1) (lv' := [(2, .int (x2 + 1)), (0, .ref (md 0)), (1, .int p0)]) hx hb dX3_least_181 hl (k := 2) rfl rfl (by decide) rfl (fun ls hl => ?_)
            refine lv_goto (tgt := 32) hx hb dX3_least_184 (by decide) ?_
            exact ih_32 (x2 + 1) cn tn tk sp ba  _ _ _ hP hD hS (lv_sub hl [1, 2, 0] rfl) e
          · have e := e.trans (if_neg c_56)
            refine lv_aload_n hx hb dX3_least_59 rfl (lv_at hl 0 rfl) ?_
            refine lv_iload_n hx hb dX3_least_60 rfl (lv_at hl 2 rfl) ?_
            refine kv_callv (va_runV (As := [.int x2]) (rest := []) ⟨hx, hb, hml, hown, hts⟩ (c_X3_spreads l D ci md th nw co ho ve la pr rg rp rm rc re ro rl cn tn tk sp ba x2 (kv_q2_n e hRz) H.size) (cwV 1 hts gX3_least_X3_spreads rfl rfl rfl (by decide +kernel) ⟨Nat.le_of_ble_eq_true rfl, Nat.le_of_ble_eq_true rfl⟩) (kv_preV hK hP hD (r := (RX3, TX3, 19)) (q0 := 0) (k := 4) rfl rfl rfl) rfl rfl hl.1 rfl (lv_room (Nat.le_of_ble_eq_true rfl)) dX3_least_61 ⟨Nat.le_of_ble_eq_true rfl, Nat.le_of_ble_eq_true rfl⟩) hD hS hA (fun u_61 H locs hw_61 hP hD hS => ?_)
            obtain ⟨o0_61, o1_61⟩ := u_61
            have e := kv_q2_e e hw_61
            have hP : va_P D vwCl (kv_mw ci md th nw co ho ve la pr rg rp rm rc re ro rl cn tn o0_61 o1_61 ba) H := hP
            have hD : va_D A (kv_mw ci md th nw co ho ve la pr rg rp rm rc re ro rl cn tn o0_61 o1_61 ba) := hD
            refine lv_iconst (v := 0) hx hb dX3_least_64 (by decide) ?_
            refine lv_istore_n (lv' := [(3, .int 0), (0, .ref (md 0)), (1, .int p0), (2, .int x2)]) hx hb dX3_least_65 rfl hl (by decide) rfl (fun ls hl => ?_)
            exact hb_66 kv_F x2 0 cn tn o0_61 o1_61 ba  _ _ _ hP hD hS (lv_sub hl [1, 2, 3, 0] rfl) e
  have hb_2 : ∀ (n_2 : Nat), ∀ (x2 : Int32) (cn : Nat → Int32) (tn : Nat → Int32) (tk : Nat → Int32) (sp : Nat → Int32) (ba : Int32) (H : Heap) (locs : List Loc) (ls : Array Slot), va_P D vwCl (kv_mw ci md th nw co ho ve la pr rg rp rm rc re ro rl cn tn tk sp ba) H → va_D A (kv_mw ci md th nw co ho ve la pr rg rp rm rc re ro rl cn tn tk sp ba) → va_S A s.heap H locs → lv_has ls 8 [(0, .ref (md 0)), (1, .int p0), (2, .int x2)] → Rz = pf_X3_least_2 co ho ve pr rg rp rm rc ro p0  n_2 x2 cn tn tk sp ba → W p l en rmX3_least s m args below meth c H locs 0 0 Q (F0 m 2 ls []) := by
    intro n_2
    induction n_2 with
    | zero =>
      intro x2 cn tn tk sp ba H locs ls  _ _ _ _ e
      exact absurd e hRz
    | succ n_2 ih_2 =>
      have hb_23 : ∀ (x2 : Int32) (z1 : Int32) (z2 : Int32) (cn : Nat → Int32) (tn : Nat → Int32) (tk : Nat → Int32) (sp : Nat → Int32) (ba : Int32) (H : Heap) (locs : List Loc) (ls : Array Slot), va_P D vwCl (kv_mw ci md th nw co ho ve la pr rg rp rm rc re ro rl cn tn tk sp ba) H → va_D A (kv_mw ci md th nw co ho ve la pr rg rp rm rc re ro rl cn tn tk sp ba) → va_S A s.heap H locs → lv_has ls 8 [(0, .ref (md 0)), (1, .int p0), (2, .int x2)] → Rz = pf_X3_least_23 co ho ve pr rg rp rm rc ro p0 (pf_X3_least_2 co ho ve pr rg rp rm rc ro p0  n_2) x2 z1 z2 cn tn tk sp ba → W p l en rmX3_least s m args below meth c H locs 0 0 Q (F0 m 23 ls [.int z2, .int z1, .ref (md 12)]) := by
        intro x2 z1 z2 cn tn tk sp ba H locs ls  hP hD hS hl e
        rw [pf_X3_least_23] at e
        obtain ⟨hi_23, e⟩ := kv_G_e e hRz
        refine kv_zast hx hb hK hP hD hS 12 1 (fun g_23 => (kv_mw ci md th nw co ho ve la pr rg rp rm rc re ro rl g_23 tn tk sp ba)) hi_23 dX3_least_23 rfl rfl (fun _ => rfl) (fun g_23 H locs eg_23 hP hD hS => ?_)
        have e := kv_T_e e eg_23
        refine lv_iinc (v := x2 + 1) (lv' := [(2, .int (x2 + 1)), (0, .ref (md 0)), (1, .int p0)]) hx hb dX3_least_24 hl (k := 2) rfl rfl (by decide) rfl (fun ls hl => ?_)
        refine lv_goto (tgt := 2) hx hb dX3_least_27 (by decide) ?_
        exact ih_2 (x2 + 1) g_23 tn tk sp ba  _ _ _ hP hD hS (lv_sub hl [1, 2, 0] rfl) e
      intro x2 cn tn tk sp ba H locs ls  hP hD hS hl e
      rw [pf_X3_least_2, pf_X3_least_2b] at e
      refine lv_iload_n hx hb dX3_least_2 rfl (lv_at hl 2 rfl) ?_
      refine lv_sipush (v := 256) hx hb dX3_least_3 (by decide) ?_
      refine lv_icmp_ge (tgt := 30) hx hb dX3_least_6 (by decide) (fun c_6 => ?_) (fun c_6 => ?_)
      · have e := e.trans (if_pos c_6)
        refine lv_iconst (v := 0) hx hb dX3_least_30 (by decide) ?_
        refine lv_istore_n (lv' := [(2, .int 0), (0, .ref (md 0)), (1, .int p0)]) hx hb dX3_least_31 rfl hl (by decide) rfl (fun ls hl => ?_)
        exact hb_32 kv_F 0 cn tn tk sp ba  _ _ _ hP hD hS (lv_sub hl [1, 2, 0] rfl) e
      · have e := e.trans (if_neg c_6)
        refine lv_aload_n hx hb dX3_least_9 rfl (lv_at hl 0 rfl) ?_
        refine va_get (D := D) (ci := 4) (v := .ref (md 12)) (C := RX3) (T := TX3) (N := 19) hx hb hts hinRX3 hown hK hP 0 rfl rfl 14 (by decide) (hts (.fieldLink RX3 43 "LicenceKeeperModel" "can" "[Z") (by decide +kernel)) (fun _ h9 => h9) rfl dX3_least_10 ?_
        refine lv_iload_n hx hb dX3_least_13 rfl (lv_at hl 2 rfl) ?_
        refine lv_iload_n hx hb dX3_least_14 rfl (lv_at hl 2 rfl) ?_
        refine lv_if_ne (tgt := 22) hx hb dX3_least_15 (by decide) (fun c_15 => ?_) (fun c_15 => ?_)
        · have e := e.trans (if_neg c_15)
          refine lv_iconst (v := 0) hx hb dX3_least_22 (by decide) ?_
          exact hb_23 x2 x2 0 cn tn tk sp ba  _ _ _ hP hD hS (lv_sub hl [0, 1, 2] rfl) e
        · have e := e.trans (if_pos c_15)
          refine lv_iconst (v := 1) hx hb dX3_least_18 (by decide) ?_
          refine lv_goto (tgt := 23) hx hb dX3_least_19 (by decide) ?_
          exact hb_23 x2 x2 1 cn tn tk sp ba  _ _ _ hP hD hS (lv_sub hl [0, 1, 2] rfl) e
  refine lv_iconst (v := 0) hx hb dX3_least_0 (by decide) ?_
  refine lv_istore_n (lv' := [(2, .int 0), (0, .ref (md 0)), (1, .int p0)]) hx hb dX3_least_1 rfl hl (by decide) rfl (fun ls hl => ?_)
  exact hb_2 kv_F 0 cn tn tk sp ba  _ _ _ hP hD hS (lv_sub hl [1, 2, 0] rfl) e

def pf_X3_gap (co : Nat → Int32) (ho : Nat → Int32) (ve : Nat → Int32) (pr : Nat → Int32) (rg : Int32) (rp : Nat → Int32) (rm : Nat → Int32) (rc : Nat → Int32) (ro : Nat → Int32) (p0 : Int32) (th : Int32) (cn : Nat → Int32) (tn : Nat → Int32) (tk : Nat → Int32) (sp : Nat → Int32) (ba : Int32) : Option (Int32 × Int32 × (Nat → Int32) × (Nat → Int32) × (Nat → Int32) × (Nat → Int32) × Int32) :=
  kv_q1 (pf_X3_isProduct p0) (fun r_6 => if r_6 = 0 then kv_q2 (pf_X3_fails 1 0) (fun r_22 u_22 => some (r_22, u_22, cn, tn, tk, sp, ba)) else kv_q6 (pf_X3_least co ho ve pr rg rp rm rc ro p0 cn tn tk sp ba) (fun r_14 o0_14 o1_14 o2_14 o3_14 o4_14 => some (r_14, 0, o0_14, o1_14, o2_14, o3_14, o4_14)))
abbrev rmX3_gap : Room := { frames := 3, cells := 0, slots := 0, locals := 77 }
set_option maxHeartbeats 4000000 in
set_option maxRecDepth 100000 in
theorem c_X3_gap (l : Launch) (D : va_G) (ci md : Nat → Nat) (th : Int32) (nw : Int32) (co : Nat → Int32) (ho : Nat → Int32) (ve : Nat → Int32) (la : Nat → Int32) (pr : Nat → Int32) (rg : Int32) (rp : Nat → Int32) (rm : Nat → Int32) (rc : Nat → Int32) (re : Nat → Int32) (ro : Nat → Int32) (rl : Nat → Int32) (cn : Nat → Int32) (tn : Nat → Int32) (tk : Nat → Int32) (sp : Nat → Int32) (ba : Int32) (p0 : Int32)  (hRn : pf_X3_gap co ho ve pr rg rp rm rc ro p0 th cn tn tk sp ba ≠ none) (sz : Nat) : Met l yX3_gap wsX3_gap rmX3_gap (va_Pc [.ref (md 0), .int p0] (kv_pre D ci (kv_mw ci md th nw co ho ve la pr rg rp rm rc re ro rl cn tn tk sp ba) sz)) (va_Qi (fun (r : Int32) (u : Int32 × (Nat → Int32) × (Nat → Int32) × (Nat → Int32) × (Nat → Int32) × Int32) => pf_X3_gap co ho ve pr rg rp rm rc ro p0 th cn tn tk sp ba = some (r, u)) (fun u t => kv_post D (kv_mw ci md th nw co ho ve la pr rg rp rm rc re ro rl cn tn tk sp ba) sz (kv_mw ci md u.1 nw co ho ve la pr rg rp rm rc re ro rl u.2.1 u.2.2.1 u.2.2.2.1 u.2.2.2.2.1 u.2.2.2.2.2) t) (va_A (kv_mw ci md th nw co ho ve la pr rg rp rm rc re ro rl cn tn tk sp ba) sz)) 0 0 (va_A (kv_mw ci md th nw co ho ve la pr rg rp rm rc re ro rl cn tn tk sp ba) sz) := by
  refine Met.ofW (cc := cX3_gap) (maxL := 2) (ret := (some .int)) (by decide) rfl ?_
  intro p en s m args below meth c s₁ B hml hv
  obtain ⟨hv0, hsz, hP, hK, hD0⟩ := hv
  have hx := B.exec
  have hb := B.bytes
  have hr := B.returns
  have hts := atoms_spec (ws := wsX3_gap) B.pre
  have hown : s.vm.findClass RX3 = some m.cls := findClass_of_methodNamed B.named
  have hlocks := B.notSynchronized
  subst hsz
  have hD := hD0.self (sz := s.heap.size)
  generalize hAe : va_A (kv_mw ci md th nw co ho ve la pr rg rp rm rc re ro rl cn tn tk sp ba) s.heap.size = A at hD ⊢
  have hA : ∀ q : Nat, s.heap.size ≤ q → A q := fun q h => by rw [← hAe]; exact Or.inr h
  have hS : va_S A s.heap s.heap [] := va_S.rf
  have hP : va_P D vwCl (kv_mw ci md th nw co ho ve la pr rg rp rm rc re ro rl cn tn tk sp ba) s.heap := hP
  have hinRX3 : ∀ w ∈ u_ws RX3 TX3 19, w ∈ wsX3_gap := by decide +kernel
  generalize hRd : pf_X3_gap co ho ve pr rg rp rm rc ro p0 th cn tn tk sp ba = Rz at hRn
  have hRz := hRn
  refine kv_Q (fun Q hQ => ?_)
  refine W.eq (show entryFrame m args 2 = _ from by rw [hv0, lg_entry_eq]) ?_
  have hl := lv_entry ([.ref (md 0), .int p0]) (n := 2) (Nat.le_of_ble_eq_true rfl)
  generalize (lg_sl ([.ref (md 0), .int p0]) ++ List.replicate (2 - (lg_sl ([.ref (md 0), .int p0])).length) Slot.unset).toArray = ls at hl ⊢
  have hl : lv_has ls 2 [(0, .ref (md 0)), (1, .int p0)] := hl
  have e : Rz = pf_X3_gap co ho ve pr rg rp rm rc ro p0 th cn tn tk sp ba := hRd.symm
  rw [pf_X3_gap] at e
  refine lv_aload_n hx hb dX3_gap_0 rfl (lv_at hl 0 rfl) ?_
  refine lv_iconst (v := 0) hx hb dX3_gap_1 (by decide) ?_
  refine va_put (D := D) (ci := 4) (v := .int 0) (ty := .int) (C := RX3) (T := TX3) (N := 19) hx hb hts hinRX3 tyX3 tyX3_ok nmX3 hown hK hP hD hS 0 rfl rfl 0 (by decide) (hts (.fieldLink RX3 56 "LicenceKeeperModel" "thrown" "I") (by decide +kernel)) (fun _ h9 => h9) rfl (by decide +kernel) rfl rfl (Nat.le_of_ble_eq_true rfl) dX3_gap_2 (fun H locs hP hD hS => ?_)
  have hP : va_P D vwCl (kv_mw ci md 0 nw co ho ve la pr rg rp rm rc re ro rl cn tn tk sp ba) H := hP
  have hD : va_D A (kv_mw ci md 0 nw co ho ve la pr rg rp rm rc re ro rl cn tn tk sp ba) := hD
  refine lv_iload_n hx hb dX3_gap_5 rfl (lv_at hl 1 rfl) ?_
  refine kv_calli (va_runS (As := [.int p0]) (rest := []) ⟨hx, hb, hml, hown, hts⟩ (c_X3_isProduct l D ci md 0 nw co ho ve la pr rg rp rm rc re ro rl cn tn tk sp ba p0 (kv_q1_n e hRz) H.size) (va_cwS 1 hts gX3_gap_X3_isProduct rfl rfl rfl (by decide +kernel) ⟨Nat.le_of_ble_eq_true rfl, Nat.le_of_ble_eq_true rfl⟩) (kv_preS hK hP hD) rfl rfl hl.1 rfl (lv_room (Nat.le_of_ble_eq_true rfl)) dX3_gap_6 ⟨Nat.le_of_ble_eq_true rfl, Nat.le_of_ble_eq_true rfl⟩) hD hS hA (fun r_6 u_6 H locs hw_6 hP hD hS => ?_)
  have e := kv_q1_e e hw_6
  refine lv_if_eq (tgt := 20) hx hb dX3_gap_9 (by decide) (fun c_9 => ?_) (fun c_9 => ?_)
  · have e := e.trans (if_pos c_9)
    refine lv_aload_n hx hb dX3_gap_20 rfl (lv_at hl 0 rfl) ?_
    refine lv_iconst (v := 1) hx hb dX3_gap_21 (by decide) ?_
    refine kv_calli (va_runV (As := [.int 1]) (rest := []) ⟨hx, hb, hml, hown, hts⟩ (c_X3_fails l D ci md 0 nw co ho ve la pr rg rp rm rc re ro rl cn tn tk sp ba 1 (kv_q2_n e hRz) H.size) (cwV 1 hts gX3_gap_X3_fails rfl rfl rfl (by decide +kernel) ⟨Nat.le_of_ble_eq_true rfl, Nat.le_of_ble_eq_true rfl⟩) (kv_preV hK hP hD (r := (RX3, TX3, 19)) (q0 := 0) (k := 4) rfl rfl rfl) rfl rfl hl.1 rfl (lv_room (Nat.le_of_ble_eq_true rfl)) dX3_gap_22 ⟨Nat.le_of_ble_eq_true rfl, Nat.le_of_ble_eq_true rfl⟩) hD hS hA (fun r_22 u_22 H locs hw_22 hP hD hS => ?_)
    have e := kv_q2_e e hw_22
    have hP : va_P D vwCl (kv_mw ci md u_22 nw co ho ve la pr rg rp rm rc re ro rl cn tn tk sp ba) H := hP
    have hD : va_D A (kv_mw ci md u_22 nw co ho ve la pr rg rp rm rc re ro rl cn tn tk sp ba) := hD
    rw [hQ]
    exact W.iret (v := r_22) hx hb hr (fun t ht hW => ⟨⟨r_22, (u_22, cn, tn, tk, sp, ba), rfl, e, ⟨by rw [ht]; exact hP, by rw [hAe]; exact hD⟩⟩, hS.F ht⟩) hS.2.2 dX3_gap_25
  · have e := e.trans (if_neg c_9)
    refine lv_aload_n hx hb dX3_gap_12 rfl (lv_at hl 0 rfl) ?_
    refine lv_iload_n hx hb dX3_gap_13 rfl (lv_at hl 1 rfl) ?_
    refine kv_calli (va_runV (As := [.int p0]) (rest := []) ⟨hx, hb, hml, hown, hts⟩ (c_X3_least l D ci md 0 nw co ho ve la pr rg rp rm rc re ro rl cn tn tk sp ba p0 (kv_q6_n e hRz) H.size) (cwV 1 hts gX3_gap_X3_least rfl rfl rfl (by decide +kernel) ⟨Nat.le_of_ble_eq_true rfl, Nat.le_of_ble_eq_true rfl⟩) (kv_preV hK hP hD (r := (RX3, TX3, 19)) (q0 := 0) (k := 4) rfl rfl rfl) rfl rfl hl.1 rfl (lv_room (Nat.le_of_ble_eq_true rfl)) dX3_gap_14 ⟨Nat.le_of_ble_eq_true rfl, Nat.le_of_ble_eq_true rfl⟩) hD hS hA (fun r_14 u_14 H locs hw_14 hP hD hS => ?_)
    obtain ⟨o0_14, o1_14, o2_14, o3_14, o4_14⟩ := u_14
    have e := kv_q6_e e hw_14
    have hP : va_P D vwCl (kv_mw ci md 0 nw co ho ve la pr rg rp rm rc re ro rl o0_14 o1_14 o2_14 o3_14 o4_14) H := hP
    have hD : va_D A (kv_mw ci md 0 nw co ho ve la pr rg rp rm rc re ro rl o0_14 o1_14 o2_14 o3_14 o4_14) := hD
    refine lv_goto (tgt := 25) hx hb dX3_gap_17 (by decide) ?_
    rw [hQ]
    exact W.iret (v := r_14) hx hb hr (fun t ht hW => ⟨⟨r_14, (0, o0_14, o1_14, o2_14, o3_14, o4_14), rfl, e, ⟨by rw [ht]; exact hP, by rw [hAe]; exact hD⟩⟩, hS.F ht⟩) hS.2.2 dX3_gap_25

def pf_X3_uncovered (co : Nat → Int32) (ho : Nat → Int32) (ve : Nat → Int32) (pr : Nat → Int32) (rg : Int32) (rp : Nat → Int32) (rm : Nat → Int32) (rc : Nat → Int32) (ro : Nat → Int32) (p0 : Int32) (th : Int32) (cn : Nat → Int32) (tn : Nat → Int32) (tk : Nat → Int32) (sp : Nat → Int32) (ba : Int32) : Option (Int32 × Int32 × (Nat → Int32) × (Nat → Int32) × (Nat → Int32) × (Nat → Int32) × Int32) :=
  kv_q1 (pf_X3_isProduct p0) (fun r_6 => if r_6 = 0 then kv_q2 (pf_X3_fails 1 0) (fun r_14 u_14 => some (r_14, u_14, cn, tn, tk, sp, ba)) else kv_q6 (pf_X3_least co ho ve pr rg rp rm rc ro p0 cn tn tk sp ba) (fun r_20 o0_20 o1_20 o2_20 o3_20 o4_20 => some (o4_20, 0, o0_20, o1_20, o2_20, o3_20, o4_20)))
abbrev rmX3_uncovered : Room := { frames := 3, cells := 0, slots := 0, locals := 77 }
set_option maxHeartbeats 4000000 in
set_option maxRecDepth 100000 in
theorem c_X3_uncovered (l : Launch) (D : va_G) (ci md : Nat → Nat) (th : Int32) (nw : Int32) (co : Nat → Int32) (ho : Nat → Int32) (ve : Nat → Int32) (la : Nat → Int32) (pr : Nat → Int32) (rg : Int32) (rp : Nat → Int32) (rm : Nat → Int32) (rc : Nat → Int32) (re : Nat → Int32) (ro : Nat → Int32) (rl : Nat → Int32) (cn : Nat → Int32) (tn : Nat → Int32) (tk : Nat → Int32) (sp : Nat → Int32) (ba : Int32) (p0 : Int32)  (hRn : pf_X3_uncovered co ho ve pr rg rp rm rc ro p0 th cn tn tk sp ba ≠ none) (sz : Nat) : Met l yX3_uncovered wsX3_uncovered rmX3_uncovered (va_Pc [.ref (md 0), .int p0] (kv_pre D ci (kv_mw ci md th nw co ho ve la pr rg rp rm rc re ro rl cn tn tk sp ba) sz)) (va_Qi (fun (r : Int32) (u : Int32 × (Nat → Int32) × (Nat → Int32) × (Nat → Int32) × (Nat → Int32) × Int32) => pf_X3_uncovered co ho ve pr rg rp rm rc ro p0 th cn tn tk sp ba = some (r, u)) (fun u t => kv_post D (kv_mw ci md th nw co ho ve la pr rg rp rm rc re ro rl cn tn tk sp ba) sz (kv_mw ci md u.1 nw co ho ve la pr rg rp rm rc re ro rl u.2.1 u.2.2.1 u.2.2.2.1 u.2.2.2.2.1 u.2.2.2.2.2) t) (va_A (kv_mw ci md th nw co ho ve la pr rg rp rm rc re ro rl cn tn tk sp ba) sz)) 0 0 (va_A (kv_mw ci md th nw co ho ve la pr rg rp rm rc re ro rl cn tn tk sp ba) sz) := by
  refine Met.ofW (cc := cX3_uncovered) (maxL := 3) (ret := (some .int)) (by decide) rfl ?_
  intro p en s m args below meth c s₁ B hml hv
  obtain ⟨hv0, hsz, hP, hK, hD0⟩ := hv
  have hx := B.exec
  have hb := B.bytes
  have hr := B.returns
  have hts := atoms_spec (ws := wsX3_uncovered) B.pre
  have hown : s.vm.findClass RX3 = some m.cls := findClass_of_methodNamed B.named
  have hlocks := B.notSynchronized
  subst hsz
  have hD := hD0.self (sz := s.heap.size)
  generalize hAe : va_A (kv_mw ci md th nw co ho ve la pr rg rp rm rc re ro rl cn tn tk sp ba) s.heap.size = A at hD ⊢
  have hA : ∀ q : Nat, s.heap.size ≤ q → A q := fun q h => by rw [← hAe]; exact Or.inr h
  have hS : va_S A s.heap s.heap [] := va_S.rf
  have hP : va_P D vwCl (kv_mw ci md th nw co ho ve la pr rg rp rm rc re ro rl cn tn tk sp ba) s.heap := hP
  have hinRX3 : ∀ w ∈ u_ws RX3 TX3 19, w ∈ wsX3_uncovered := by decide +kernel
  generalize hRd : pf_X3_uncovered co ho ve pr rg rp rm rc ro p0 th cn tn tk sp ba = Rz at hRn
  have hRz := hRn
  refine kv_Q (fun Q hQ => ?_)
  refine W.eq (show entryFrame m args 3 = _ from by rw [hv0, lg_entry_eq]) ?_
  have hl := lv_entry ([.ref (md 0), .int p0]) (n := 3) (Nat.le_of_ble_eq_true rfl)
  generalize (lg_sl ([.ref (md 0), .int p0]) ++ List.replicate (3 - (lg_sl ([.ref (md 0), .int p0])).length) Slot.unset).toArray = ls at hl ⊢
  have hl : lv_has ls 3 [(0, .ref (md 0)), (1, .int p0)] := hl
  have e : Rz = pf_X3_uncovered co ho ve pr rg rp rm rc ro p0 th cn tn tk sp ba := hRd.symm
  rw [pf_X3_uncovered] at e
  refine lv_aload_n hx hb dX3_uncovered_0 rfl (lv_at hl 0 rfl) ?_
  refine lv_iconst (v := 0) hx hb dX3_uncovered_1 (by decide) ?_
  refine va_put (D := D) (ci := 4) (v := .int 0) (ty := .int) (C := RX3) (T := TX3) (N := 19) hx hb hts hinRX3 tyX3 tyX3_ok nmX3 hown hK hP hD hS 0 rfl rfl 0 (by decide) (hts (.fieldLink RX3 56 "LicenceKeeperModel" "thrown" "I") (by decide +kernel)) (fun _ h9 => h9) rfl (by decide +kernel) rfl rfl (Nat.le_of_ble_eq_true rfl) dX3_uncovered_2 (fun H locs hP hD hS => ?_)
  have hP : va_P D vwCl (kv_mw ci md 0 nw co ho ve la pr rg rp rm rc re ro rl cn tn tk sp ba) H := hP
  have hD : va_D A (kv_mw ci md 0 nw co ho ve la pr rg rp rm rc re ro rl cn tn tk sp ba) := hD
  refine lv_iload_n hx hb dX3_uncovered_5 rfl (lv_at hl 1 rfl) ?_
  refine kv_calli (va_runS (As := [.int p0]) (rest := []) ⟨hx, hb, hml, hown, hts⟩ (c_X3_isProduct l D ci md 0 nw co ho ve la pr rg rp rm rc re ro rl cn tn tk sp ba p0 (kv_q1_n e hRz) H.size) (va_cwS 1 hts gX3_uncovered_X3_isProduct rfl rfl rfl (by decide +kernel) ⟨Nat.le_of_ble_eq_true rfl, Nat.le_of_ble_eq_true rfl⟩) (kv_preS hK hP hD) rfl rfl hl.1 rfl (lv_room (Nat.le_of_ble_eq_true rfl)) dX3_uncovered_6 ⟨Nat.le_of_ble_eq_true rfl, Nat.le_of_ble_eq_true rfl⟩) hD hS hA (fun r_6 u_6 H locs hw_6 hP hD hS => ?_)
  have e := kv_q1_e e hw_6
  refine lv_if_ne (tgt := 18) hx hb dX3_uncovered_9 (by decide) (fun c_9 => ?_) (fun c_9 => ?_)
  · have e := e.trans (if_neg c_9)
    refine lv_aload_n hx hb dX3_uncovered_18 rfl (lv_at hl 0 rfl) ?_
    refine lv_iload_n hx hb dX3_uncovered_19 rfl (lv_at hl 1 rfl) ?_
    refine kv_calli (va_runV (As := [.int p0]) (rest := []) ⟨hx, hb, hml, hown, hts⟩ (c_X3_least l D ci md 0 nw co ho ve la pr rg rp rm rc re ro rl cn tn tk sp ba p0 (kv_q6_n e hRz) H.size) (cwV 1 hts gX3_uncovered_X3_least rfl rfl rfl (by decide +kernel) ⟨Nat.le_of_ble_eq_true rfl, Nat.le_of_ble_eq_true rfl⟩) (kv_preV hK hP hD (r := (RX3, TX3, 19)) (q0 := 0) (k := 4) rfl rfl rfl) rfl rfl hl.1 rfl (lv_room (Nat.le_of_ble_eq_true rfl)) dX3_uncovered_20 ⟨Nat.le_of_ble_eq_true rfl, Nat.le_of_ble_eq_true rfl⟩) hD hS hA (fun r_20 u_20 H locs hw_20 hP hD hS => ?_)
    obtain ⟨o0_20, o1_20, o2_20, o3_20, o4_20⟩ := u_20
    have e := kv_q6_e e hw_20
    have hP : va_P D vwCl (kv_mw ci md 0 nw co ho ve la pr rg rp rm rc re ro rl o0_20 o1_20 o2_20 o3_20 o4_20) H := hP
    have hD : va_D A (kv_mw ci md 0 nw co ho ve la pr rg rp rm rc re ro rl o0_20 o1_20 o2_20 o3_20 o4_20) := hD
    refine lv_istore_n (lv' := [(2, .int r_20), (0, .ref (md 0)), (1, .int p0)]) hx hb dX3_uncovered_23 rfl hl (by decide) rfl (fun ls hl => ?_)
    refine lv_aload_n hx hb dX3_uncovered_24 rfl (lv_at hl 1 rfl) ?_
    refine va_get (D := D) (ci := 4) (v := .int o4_20) (C := RX3) (T := TX3) (N := 19) hx hb hts hinRX3 hown hK hP 0 rfl rfl 18 (by decide) (hts (.fieldLink RX3 106 "LicenceKeeperModel" "bare" "I") (by decide +kernel)) (fun _ h9 => h9) rfl dX3_uncovered_25 ?_
    rw [hQ]
    exact W.iret (v := o4_20) hx hb hr (fun t ht hW => ⟨⟨o4_20, (0, o0_20, o1_20, o2_20, o3_20, o4_20), rfl, e, ⟨by rw [ht]; exact hP, by rw [hAe]; exact hD⟩⟩, hS.F ht⟩) hS.2.2 dX3_uncovered_28
  · have e := e.trans (if_pos c_9)
    refine lv_aload_n hx hb dX3_uncovered_12 rfl (lv_at hl 0 rfl) ?_
    refine lv_iconst (v := 1) hx hb dX3_uncovered_13 (by decide) ?_
    refine kv_calli (va_runV (As := [.int 1]) (rest := []) ⟨hx, hb, hml, hown, hts⟩ (c_X3_fails l D ci md 0 nw co ho ve la pr rg rp rm rc re ro rl cn tn tk sp ba 1 (kv_q2_n e hRz) H.size) (cwV 1 hts gX3_uncovered_X3_fails rfl rfl rfl (by decide +kernel) ⟨Nat.le_of_ble_eq_true rfl, Nat.le_of_ble_eq_true rfl⟩) (kv_preV hK hP hD (r := (RX3, TX3, 19)) (q0 := 0) (k := 4) rfl rfl rfl) rfl rfl hl.1 rfl (lv_room (Nat.le_of_ble_eq_true rfl)) dX3_uncovered_14 ⟨Nat.le_of_ble_eq_true rfl, Nat.le_of_ble_eq_true rfl⟩) hD hS hA (fun r_14 u_14 H locs hw_14 hP hD hS => ?_)
    have e := kv_q2_e e hw_14
    have hP : va_P D vwCl (kv_mw ci md u_14 nw co ho ve la pr rg rp rm rc re ro rl cn tn tk sp ba) H := hP
    have hD : va_D A (kv_mw ci md u_14 nw co ho ve la pr rg rp rm rc re ro rl cn tn tk sp ba) := hD
    rw [hQ]
    exact W.iret (v := r_14) hx hb hr (fun t ht hW => ⟨⟨r_14, (u_14, cn, tn, tk, sp, ba), rfl, e, ⟨by rw [ht]; exact hP, by rw [hAe]; exact hD⟩⟩, hS.F ht⟩) hS.2.2 dX3_uncovered_17

def pf_X3_gapByAll_55 (co : Nat → Int32) (ho : Nat → Int32) (ve : Nat → Int32) (pr : Nat → Int32) (rg : Int32) (rp : Nat → Int32) (rm : Nat → Int32) (rc : Nat → Int32) (ro : Nat → Int32) (p0 : Int32) (k_22 : Int32 → Int32 → Int32 → (Nat → Int32) → (Nat → Int32) → (Nat → Int32) → (Nat → Int32) → Int32 → Option (Int32 × Int32 × (Nat → Int32) × (Nat → Int32) × (Nat → Int32) × (Nat → Int32) × Int32)) (x3 : Int32) (z0 : Int32) (z1 : Int32) (th : Int32) (cn : Nat → Int32) (tn : Nat → Int32) (tk : Nat → Int32) (sp : Nat → Int32) (ba : Int32) : Option (Int32 × Int32 × (Nat → Int32) × (Nat → Int32) × (Nat → Int32) × (Nat → Int32) × Int32) :=
  kv_T (z0 + z1) (fun y_56 => k_22 y_56 (x3 + 1) th cn tn tk sp ba)
def pf_X3_gapByAll_22b (co : Nat → Int32) (ho : Nat → Int32) (ve : Nat → Int32) (pr : Nat → Int32) (rg : Int32) (rp : Nat → Int32) (rm : Nat → Int32) (rc : Nat → Int32) (ro : Nat → Int32) (p0 : Int32)  (k_22 : Int32 → Int32 → Int32 → (Nat → Int32) → (Nat → Int32) → (Nat → Int32) → (Nat → Int32) → Int32 → Option (Int32 × Int32 × (Nat → Int32) × (Nat → Int32) × (Nat → Int32) × (Nat → Int32) × Int32)) (x2 : Int32) (x3 : Int32) (th : Int32) (cn : Nat → Int32) (tn : Nat → Int32) (tk : Nat → Int32) (sp : Nat → Int32) (ba : Int32) : Option (Int32 × Int32 × (Nat → Int32) × (Nat → Int32) × (Nat → Int32) × (Nat → Int32) × Int32) :=
  if rg ≤ x3 then if x2 ≤ 2 then kv_q6 (pf_X3_least co ho ve pr rg rp rm rc ro p0 cn tn tk sp ba) (fun r_78 o0_78 o1_78 o2_78 o3_78 o4_78 => some (r_78, th, o0_78, o1_78, o2_78, o3_78, o4_78)) else kv_q2 (pf_X3_fails 2 th) (fun r_70 u_70 => some (r_70, u_70, cn, tn, tk, sp, ba)) else kv_G x3 12 (kv_T (rp x3.toNatClampNeg) (fun y_36 => if y_36 = p0 then kv_G x3 12 (kv_T (rc x3.toNatClampNeg) (fun y_46 => if y_46 ≤ 0 then pf_X3_gapByAll_55 co ho ve pr rg rp rm rc ro p0 k_22 x3 x2 0 th cn tn tk sp ba else pf_X3_gapByAll_55 co ho ve pr rg rp rm rc ro p0 k_22 x3 x2 1 th cn tn tk sp ba)) else pf_X3_gapByAll_55 co ho ve pr rg rp rm rc ro p0 k_22 x3 x2 0 th cn tn tk sp ba))
def pf_X3_gapByAll_22 (co : Nat → Int32) (ho : Nat → Int32) (ve : Nat → Int32) (pr : Nat → Int32) (rg : Int32) (rp : Nat → Int32) (rm : Nat → Int32) (rc : Nat → Int32) (ro : Nat → Int32) (p0 : Int32)  : Nat → Int32 → Int32 → Int32 → (Nat → Int32) → (Nat → Int32) → (Nat → Int32) → (Nat → Int32) → Int32 → Option (Int32 × Int32 × (Nat → Int32) × (Nat → Int32) × (Nat → Int32) × (Nat → Int32) × Int32)
  | 0, _, _, _, _, _, _, _, _ => none
  | nn + 1, x2, x3, th, cn, tn, tk, sp, ba => pf_X3_gapByAll_22b co ho ve pr rg rp rm rc ro p0  (pf_X3_gapByAll_22 co ho ve pr rg rp rm rc ro p0  nn) x2 x3 th cn tn tk sp ba
def pf_X3_gapByAll (co : Nat → Int32) (ho : Nat → Int32) (ve : Nat → Int32) (pr : Nat → Int32) (rg : Int32) (rp : Nat → Int32) (rm : Nat → Int32) (rc : Nat → Int32) (ro : Nat → Int32) (p0 : Int32) (th : Int32) (cn : Nat → Int32) (tn : Nat → Int32) (tk : Nat → Int32) (sp : Nat → Int32) (ba : Int32) : Option (Int32 × Int32 × (Nat → Int32) × (Nat → Int32) × (Nat → Int32) × (Nat → Int32) × Int32) :=
  kv_q1 (pf_X3_isProduct p0) (fun r_6 => if r_6 = 0 then kv_q2 (pf_X3_fails 1 0) (fun r_14 u_14 => some (r_14, u_14, cn, tn, tk, sp, ba)) else pf_X3_gapByAll_22 co ho ve pr rg rp rm rc ro p0 kv_F 0 0 0 cn tn tk sp ba)
abbrev rmX3_gapByAll : Room := { frames := 3, cells := 0, slots := 0, locals := 77 }
set_option maxHeartbeats 4000000 in
set_option maxRecDepth 100000 in
theorem c_X3_gapByAll (l : Launch) (D : va_G) (ci md : Nat → Nat) (th : Int32) (nw : Int32) (co : Nat → Int32) (ho : Nat → Int32) (ve : Nat → Int32) (la : Nat → Int32) (pr : Nat → Int32) (rg : Int32) (rp : Nat → Int32) (rm : Nat → Int32) (rc : Nat → Int32) (re : Nat → Int32) (ro : Nat → Int32) (rl : Nat → Int32) (cn : Nat → Int32) (tn : Nat → Int32) (tk : Nat → Int32) (sp : Nat → Int32) (ba : Int32) (p0 : Int32)  (hRn : pf_X3_gapByAll co ho ve pr rg rp rm rc ro p0 th cn tn tk sp ba ≠ none) (sz : Nat) : Met l yX3_gapByAll wsX3_gapByAll rmX3_gapByAll (va_Pc [.ref (md 0), .int p0] (kv_pre D ci (kv_mw ci md th nw co ho ve la pr rg rp rm rc re ro rl cn tn tk sp ba) sz)) (va_Qi (fun (r : Int32) (u : Int32 × (Nat → Int32) × (Nat → Int32) × (Nat → Int32) × (Nat → Int32) × Int32) => pf_X3_gapByAll co ho ve pr rg rp rm rc ro p0 th cn tn tk sp ba = some (r, u)) (fun u t => kv_post D (kv_mw ci md th nw co ho ve la pr rg rp rm rc re ro rl cn tn tk sp ba) sz (kv_mw ci md u.1 nw co ho ve la pr rg rp rm rc re ro rl u.2.1 u.2.2.1 u.2.2.2.1 u.2.2.2.2.1 u.2.2.2.2.2) t) (va_A (kv_mw ci md th nw co ho ve la pr rg rp rm rc re ro rl cn tn tk sp ba) sz)) 0 0 (va_A (kv_mw ci md th nw co ho ve la pr rg rp rm rc re ro rl cn tn tk sp ba) sz) := by
  refine Met.ofW (cc := cX3_gapByAll) (maxL := 4) (ret := (some .int)) (by decide) rfl ?_
  intro p en s m args below meth c s₁ B hml hv
  obtain ⟨hv0, hsz, hP, hK, hD0⟩ := hv
  have hx := B.exec
  have hb := B.bytes
  have hr := B.returns
  have hts := atoms_spec (ws := wsX3_gapByAll) B.pre
  have hown : s.vm.findClass RX3 = some m.cls := findClass_of_methodNamed B.named
  have hlocks := B.notSynchronized
  subst hsz
  have hD := hD0.self (sz := s.heap.size)
  generalize hAe : va_A (kv_mw ci md th nw co ho ve la pr rg rp rm rc re ro rl cn tn tk sp ba) s.heap.size = A at hD ⊢
  have hA : ∀ q : Nat, s.heap.size ≤ q → A q := fun q h => by rw [← hAe]; exact Or.inr h
  have hS : va_S A s.heap s.heap [] := va_S.rf
  have hP : va_P D vwCl (kv_mw ci md th nw co ho ve la pr rg rp rm rc re ro rl cn tn tk sp ba) s.heap := hP
  have hinRX3 : ∀ w ∈ u_ws RX3 TX3 19, w ∈ wsX3_gapByAll := by decide +kernel
  generalize hRd : pf_X3_gapByAll co ho ve pr rg rp rm rc ro p0 th cn tn tk sp ba = Rz at hRn
  have hRz := hRn
  refine kv_Q (fun Q hQ => ?_)
  refine W.eq (show entryFrame m args 4 = _ from by rw [hv0, lg_entry_eq]) ?_
  have hl := lv_entry ([.ref (md 0), .int p0]) (n := 4) (Nat.le_of_ble_eq_true rfl)
  generalize (lg_sl ([.ref (md 0), .int p0]) ++ List.replicate (4 - (lg_sl ([.ref (md 0), .int p0])).length) Slot.unset).toArray = ls at hl ⊢
  have hl : lv_has ls 4 [(0, .ref (md 0)), (1, .int p0)] := hl
  have e : Rz = pf_X3_gapByAll co ho ve pr rg rp rm rc ro p0 th cn tn tk sp ba := hRd.symm
  rw [pf_X3_gapByAll] at e
  have hb_22 : ∀ (n_22 : Nat), ∀ (x2 : Int32) (x3 : Int32) (th : Int32) (cn : Nat → Int32) (tn : Nat → Int32) (tk : Nat → Int32) (sp : Nat → Int32) (ba : Int32) (H : Heap) (locs : List Loc) (ls : Array Slot), va_P D vwCl (kv_mw ci md th nw co ho ve la pr rg rp rm rc re ro rl cn tn tk sp ba) H → va_D A (kv_mw ci md th nw co ho ve la pr rg rp rm rc re ro rl cn tn tk sp ba) → va_S A s.heap H locs → lv_has ls 4 [(0, .ref (md 0)), (1, .int p0), (2, .int x2), (3, .int x3)] → Rz = pf_X3_gapByAll_22 co ho ve pr rg rp rm rc ro p0  n_22 x2 x3 th cn tn tk sp ba → W p l en rmX3_gapByAll s m args below meth c H locs 0 0 Q (F0 m 22 ls []) := by
    intro n_22
    induction n_22 with
    | zero =>
      intro x2 x3 th cn tn tk sp ba H locs ls  _ _ _ _ e
      exact absurd e hRz
    | succ n_22 ih_22 =>
      have hb_55 : ∀ (x3 : Int32) (z0 : Int32) (z1 : Int32) (th : Int32) (cn : Nat → Int32) (tn : Nat → Int32) (tk : Nat → Int32) (sp : Nat → Int32) (ba : Int32) (H : Heap) (locs : List Loc) (ls : Array Slot), va_P D vwCl (kv_mw ci md th nw co ho ve la pr rg rp rm rc re ro rl cn tn tk sp ba) H → va_D A (kv_mw ci md th nw co ho ve la pr rg rp rm rc re ro rl cn tn tk sp ba) → va_S A s.heap H locs → lv_has ls 4 [(0, .ref (md 0)), (1, .int p0), (3, .int x3)] → Rz = pf_X3_gapByAll_55 co ho ve pr rg rp rm rc ro p0 (pf_X3_gapByAll_22 co ho ve pr rg rp rm rc ro p0  n_22) x3 z0 z1 th cn tn tk sp ba → W p l en rmX3_gapByAll s m args below meth c H locs 0 0 Q (F0 m 55 ls [.int z1, .int z0]) := by
        intro x3 z0 z1 th cn tn tk sp ba H locs ls  hP hD hS hl e
        rw [pf_X3_gapByAll_55] at e
        refine lv_iadd hx hb dX3_gapByAll_55 ?_
        refine lv_topi (fun y_56 ey_56 => ?_)
        have e := kv_T_e e ey_56
        refine lv_istore_n (lv' := [(2, .int y_56), (0, .ref (md 0)), (1, .int p0), (3, .int x3)]) hx hb dX3_gapByAll_56 rfl hl (by decide) rfl (fun ls hl => ?_)
        refine lv_iinc (v := x3 + 1) (lv' := [(3, .int (x3 + 1)), (2, .int y_56), (0, .ref (md 0)), (1, .int p0)]) hx hb dX3_gapByAll_57 hl (k := 3) rfl rfl (by decide) rfl (fun ls hl => ?_)
        refine lv_goto (tgt := 22) hx hb dX3_gapByAll_60 (by decide) ?_
        exact ih_22 y_56 (x3 + 1) th cn tn tk sp ba  _ _ _ hP hD hS (lv_sub hl [2, 3, 1, 0] rfl) e
      intro x2 x3 th cn tn tk sp ba H locs ls  hP hD hS hl e
      rw [pf_X3_gapByAll_22, pf_X3_gapByAll_22b] at e
      refine lv_iload_n hx hb dX3_gapByAll_22 rfl (lv_at hl 3 rfl) ?_
      refine lv_aload_n hx hb dX3_gapByAll_23 rfl (lv_at hl 0 rfl) ?_
      refine va_get (D := D) (ci := 4) (v := .int rg) (C := RX3) (T := TX3) (N := 19) hx hb hts hinRX3 hown hK hP 0 rfl rfl 7 (by decide) (hts (.fieldLink RX3 64 "LicenceKeeperModel" "rights" "I") (by decide +kernel)) (fun _ h9 => h9) rfl dX3_gapByAll_24 ?_
      refine lv_icmp_ge (tgt := 63) hx hb dX3_gapByAll_27 (by decide) (fun c_27 => ?_) (fun c_27 => ?_)
      · have e := e.trans (if_pos c_27)
        refine lv_iload_n hx hb dX3_gapByAll_63 rfl (lv_at hl 2 rfl) ?_
        refine lv_iconst (v := 2) hx hb dX3_gapByAll_64 (by decide) ?_
        refine lv_icmp_le (tgt := 76) hx hb dX3_gapByAll_65 (by decide) (fun c_65 => ?_) (fun c_65 => ?_)
        · have e := e.trans (if_pos c_65)
          refine lv_aload_n hx hb dX3_gapByAll_76 rfl (lv_at hl 0 rfl) ?_
          refine lv_iload_n hx hb dX3_gapByAll_77 rfl (lv_at hl 1 rfl) ?_
          refine kv_calli (va_runV (As := [.int p0]) (rest := []) ⟨hx, hb, hml, hown, hts⟩ (c_X3_least l D ci md th nw co ho ve la pr rg rp rm rc re ro rl cn tn tk sp ba p0 (kv_q6_n e hRz) H.size) (cwV 1 hts gX3_gapByAll_X3_least rfl rfl rfl (by decide +kernel) ⟨Nat.le_of_ble_eq_true rfl, Nat.le_of_ble_eq_true rfl⟩) (kv_preV hK hP hD (r := (RX3, TX3, 19)) (q0 := 0) (k := 4) rfl rfl rfl) rfl rfl hl.1 rfl (lv_room (Nat.le_of_ble_eq_true rfl)) dX3_gapByAll_78 ⟨Nat.le_of_ble_eq_true rfl, Nat.le_of_ble_eq_true rfl⟩) hD hS hA (fun r_78 u_78 H locs hw_78 hP hD hS => ?_)
          obtain ⟨o0_78, o1_78, o2_78, o3_78, o4_78⟩ := u_78
          have e := kv_q6_e e hw_78
          have hP : va_P D vwCl (kv_mw ci md th nw co ho ve la pr rg rp rm rc re ro rl o0_78 o1_78 o2_78 o3_78 o4_78) H := hP
          have hD : va_D A (kv_mw ci md th nw co ho ve la pr rg rp rm rc re ro rl o0_78 o1_78 o2_78 o3_78 o4_78) := hD
          rw [hQ]
          exact W.iret (v := r_78) hx hb hr (fun t ht hW => ⟨⟨r_78, (th, o0_78, o1_78, o2_78, o3_78, o4_78), rfl, e, ⟨by rw [ht]; exact hP, by rw [hAe]; exact hD⟩⟩, hS.F ht⟩) hS.2.2 dX3_gapByAll_81
        · have e := e.trans (if_neg c_65)
          refine lv_aload_n hx hb dX3_gapByAll_68 rfl (lv_at hl 0 rfl) ?_
          refine lv_iconst (v := 2) hx hb dX3_gapByAll_69 (by decide) ?_
          refine kv_calli (va_runV (As := [.int 2]) (rest := []) ⟨hx, hb, hml, hown, hts⟩ (c_X3_fails l D ci md th nw co ho ve la pr rg rp rm rc re ro rl cn tn tk sp ba 2 (kv_q2_n e hRz) H.size) (cwV 1 hts gX3_gapByAll_X3_fails rfl rfl rfl (by decide +kernel) ⟨Nat.le_of_ble_eq_true rfl, Nat.le_of_ble_eq_true rfl⟩) (kv_preV hK hP hD (r := (RX3, TX3, 19)) (q0 := 0) (k := 4) rfl rfl rfl) rfl rfl hl.1 rfl (lv_room (Nat.le_of_ble_eq_true rfl)) dX3_gapByAll_70 ⟨Nat.le_of_ble_eq_true rfl, Nat.le_of_ble_eq_true rfl⟩) hD hS hA (fun r_70 u_70 H locs hw_70 hP hD hS => ?_)
          have e := kv_q2_e e hw_70
          have hP : va_P D vwCl (kv_mw ci md u_70 nw co ho ve la pr rg rp rm rc re ro rl cn tn tk sp ba) H := hP
          have hD : va_D A (kv_mw ci md u_70 nw co ho ve la pr rg rp rm rc re ro rl cn tn tk sp ba) := hD
          refine lv_goto (tgt := 81) hx hb dX3_gapByAll_73 (by decide) ?_
          rw [hQ]
          exact W.iret (v := r_70) hx hb hr (fun t ht hW => ⟨⟨r_70, (u_70, cn, tn, tk, sp, ba), rfl, e, ⟨by rw [ht]; exact hP, by rw [hAe]; exact hD⟩⟩, hS.F ht⟩) hS.2.2 dX3_gapByAll_81
      · have e := e.trans (if_neg c_27)
        refine lv_iload_n hx hb dX3_gapByAll_30 rfl (lv_at hl 2 rfl) ?_
        refine lv_aload_n hx hb dX3_gapByAll_31 rfl (lv_at hl 0 rfl) ?_
        refine va_get (D := D) (ci := 4) (v := .ref (md 6)) (C := RX3) (T := TX3) (N := 19) hx hb hts hinRX3 hown hK hP 0 rfl rfl 8 (by decide) (hts (.fieldLink RX3 25 "LicenceKeeperModel" "product" "[I") (by decide +kernel)) (fun _ h9 => h9) rfl dX3_gapByAll_32 ?_
        refine lv_iload_n hx hb dX3_gapByAll_35 rfl (lv_at hl 3 rfl) ?_
        obtain ⟨hi_36, e⟩ := kv_G_e e hRz
        refine kv_iald hx hb hK hP 6 0 hi_36 dX3_gapByAll_36 rfl rfl (fun y_36 ey_36 => ?_)
        have e := kv_T_e e ey_36
        refine lv_iload_n hx hb dX3_gapByAll_37 rfl (lv_at hl 1 rfl) ?_
        refine lv_icmp_ne (tgt := 54) hx hb dX3_gapByAll_38 (by decide) (fun c_38 => ?_) (fun c_38 => ?_)
        · have e := e.trans (if_neg c_38)
          refine lv_iconst (v := 0) hx hb dX3_gapByAll_54 (by decide) ?_
          exact hb_55 x3 x2 0 th cn tn tk sp ba  _ _ _ hP hD hS (lv_sub hl [0, 1, 3] rfl) e
        · have e := e.trans (if_pos c_38)
          refine lv_aload_n hx hb dX3_gapByAll_41 rfl (lv_at hl 0 rfl) ?_
          refine va_get (D := D) (ci := 4) (v := .ref (md 8)) (C := RX3) (T := TX3) (N := 19) hx hb hts hinRX3 hown hK hP 0 rfl rfl 10 (by decide) (hts (.fieldLink RX3 31 "LicenceKeeperModel" "count" "[I") (by decide +kernel)) (fun _ h9 => h9) rfl dX3_gapByAll_42 ?_
          refine lv_iload_n hx hb dX3_gapByAll_45 rfl (lv_at hl 3 rfl) ?_
          obtain ⟨hi_46, e⟩ := kv_G_e e hRz
          refine kv_iald hx hb hK hP 8 0 hi_46 dX3_gapByAll_46 rfl rfl (fun y_46 ey_46 => ?_)
          have e := kv_T_e e ey_46
          refine lv_if_le (tgt := 54) hx hb dX3_gapByAll_47 (by decide) (fun c_47 => ?_) (fun c_47 => ?_)
          · have e := e.trans (if_pos c_47)
            refine lv_iconst (v := 0) hx hb dX3_gapByAll_54 (by decide) ?_
            exact hb_55 x3 x2 0 th cn tn tk sp ba  _ _ _ hP hD hS (lv_sub hl [0, 1, 3] rfl) e
          · have e := e.trans (if_neg c_47)
            refine lv_iconst (v := 1) hx hb dX3_gapByAll_50 (by decide) ?_
            refine lv_goto (tgt := 55) hx hb dX3_gapByAll_51 (by decide) ?_
            exact hb_55 x3 x2 1 th cn tn tk sp ba  _ _ _ hP hD hS (lv_sub hl [0, 1, 3] rfl) e
  refine lv_aload_n hx hb dX3_gapByAll_0 rfl (lv_at hl 0 rfl) ?_
  refine lv_iconst (v := 0) hx hb dX3_gapByAll_1 (by decide) ?_
  refine va_put (D := D) (ci := 4) (v := .int 0) (ty := .int) (C := RX3) (T := TX3) (N := 19) hx hb hts hinRX3 tyX3 tyX3_ok nmX3 hown hK hP hD hS 0 rfl rfl 0 (by decide) (hts (.fieldLink RX3 56 "LicenceKeeperModel" "thrown" "I") (by decide +kernel)) (fun _ h9 => h9) rfl (by decide +kernel) rfl rfl (Nat.le_of_ble_eq_true rfl) dX3_gapByAll_2 (fun H locs hP hD hS => ?_)
  have hP : va_P D vwCl (kv_mw ci md 0 nw co ho ve la pr rg rp rm rc re ro rl cn tn tk sp ba) H := hP
  have hD : va_D A (kv_mw ci md 0 nw co ho ve la pr rg rp rm rc re ro rl cn tn tk sp ba) := hD
  refine lv_iload_n hx hb dX3_gapByAll_5 rfl (lv_at hl 1 rfl) ?_
  refine kv_calli (va_runS (As := [.int p0]) (rest := []) ⟨hx, hb, hml, hown, hts⟩ (c_X3_isProduct l D ci md 0 nw co ho ve la pr rg rp rm rc re ro rl cn tn tk sp ba p0 (kv_q1_n e hRz) H.size) (va_cwS 1 hts gX3_gapByAll_X3_isProduct rfl rfl rfl (by decide +kernel) ⟨Nat.le_of_ble_eq_true rfl, Nat.le_of_ble_eq_true rfl⟩) (kv_preS hK hP hD) rfl rfl hl.1 rfl (lv_room (Nat.le_of_ble_eq_true rfl)) dX3_gapByAll_6 ⟨Nat.le_of_ble_eq_true rfl, Nat.le_of_ble_eq_true rfl⟩) hD hS hA (fun r_6 u_6 H locs hw_6 hP hD hS => ?_)
  have e := kv_q1_e e hw_6
  refine lv_if_ne (tgt := 18) hx hb dX3_gapByAll_9 (by decide) (fun c_9 => ?_) (fun c_9 => ?_)
  · have e := e.trans (if_neg c_9)
    refine lv_iconst (v := 0) hx hb dX3_gapByAll_18 (by decide) ?_
    refine lv_istore_n (lv' := [(2, .int 0), (0, .ref (md 0)), (1, .int p0)]) hx hb dX3_gapByAll_19 rfl hl (by decide) rfl (fun ls hl => ?_)
    refine lv_iconst (v := 0) hx hb dX3_gapByAll_20 (by decide) ?_
    refine lv_istore_n (lv' := [(3, .int 0), (2, .int 0), (0, .ref (md 0)), (1, .int p0)]) hx hb dX3_gapByAll_21 rfl hl (by decide) rfl (fun ls hl => ?_)
    exact hb_22 kv_F 0 0 0 cn tn tk sp ba  _ _ _ hP hD hS (lv_sub hl [2, 3, 1, 0] rfl) e
  · have e := e.trans (if_pos c_9)
    refine lv_aload_n hx hb dX3_gapByAll_12 rfl (lv_at hl 0 rfl) ?_
    refine lv_iconst (v := 1) hx hb dX3_gapByAll_13 (by decide) ?_
    refine kv_calli (va_runV (As := [.int 1]) (rest := []) ⟨hx, hb, hml, hown, hts⟩ (c_X3_fails l D ci md 0 nw co ho ve la pr rg rp rm rc re ro rl cn tn tk sp ba 1 (kv_q2_n e hRz) H.size) (cwV 1 hts gX3_gapByAll_X3_fails rfl rfl rfl (by decide +kernel) ⟨Nat.le_of_ble_eq_true rfl, Nat.le_of_ble_eq_true rfl⟩) (kv_preV hK hP hD (r := (RX3, TX3, 19)) (q0 := 0) (k := 4) rfl rfl rfl) rfl rfl hl.1 rfl (lv_room (Nat.le_of_ble_eq_true rfl)) dX3_gapByAll_14 ⟨Nat.le_of_ble_eq_true rfl, Nat.le_of_ble_eq_true rfl⟩) hD hS hA (fun r_14 u_14 H locs hw_14 hP hD hS => ?_)
    have e := kv_q2_e e hw_14
    have hP : va_P D vwCl (kv_mw ci md u_14 nw co ho ve la pr rg rp rm rc re ro rl cn tn tk sp ba) H := hP
    have hD : va_D A (kv_mw ci md u_14 nw co ho ve la pr rg rp rm rc re ro rl cn tn tk sp ba) := hD
    rw [hQ]
    exact W.iret (v := r_14) hx hb hr (fun t ht hW => ⟨⟨r_14, (u_14, cn, tn, tk, sp, ba), rfl, e, ⟨by rw [ht]; exact hP, by rw [hAe]; exact hD⟩⟩, hS.F ht⟩) hS.2.2 dX3_gapByAll_17

def pf_X3_gapIf_18 (co : Nat → Int32) (ve : Nat → Int32) (pr : Nat → Int32) (rg : Int32) (rp : Nat → Int32) (rm : Nat → Int32) (rc : Nat → Int32) (ro : Nat → Int32) (p0 : Int32) (p1 : Int32) (p2 : Int32)  (z1 : Int32) (th : Int32) (ho : Nat → Int32) (cn : Nat → Int32) (tn : Nat → Int32) (tk : Nat → Int32) (sp : Nat → Int32) (ba : Int32) : Option (Int32 × Int32 × (Nat → Int32) × (Nat → Int32) × (Nat → Int32) × (Nat → Int32) × (Nat → Int32) × Int32) :=
  if z1 ≤ 0 then kv_G p1 8 (kv_T (ho p1.toNatClampNeg) (fun y_35 => kv_G p1 8 (kv_T (upd ho p1.toNatClampNeg p2) (fun g_44 => kv_q6 (pf_X3_least co g_44 ve pr rg rp rm rc ro p0 cn tn tk sp ba) (fun r_47 o0_47 o1_47 o2_47 o3_47 o4_47 => kv_G p1 8 (kv_T (upd g_44 p1.toNatClampNeg y_35) (fun g_59 => some (r_47, z1, g_59, o0_47, o1_47, o2_47, o3_47, o4_47)))))))) else some (0, z1, ho, cn, tn, tk, sp, ba)
def pf_X3_gapIf (co : Nat → Int32) (ve : Nat → Int32) (pr : Nat → Int32) (rg : Int32) (rp : Nat → Int32) (rm : Nat → Int32) (rc : Nat → Int32) (ro : Nat → Int32) (p0 : Int32) (p1 : Int32) (p2 : Int32) (th : Int32) (ho : Nat → Int32) (cn : Nat → Int32) (tn : Nat → Int32) (tk : Nat → Int32) (sp : Nat → Int32) (ba : Int32) : Option (Int32 × Int32 × (Nat → Int32) × (Nat → Int32) × (Nat → Int32) × (Nat → Int32) × (Nat → Int32) × Int32) :=
  kv_q1 (pf_X3_isProduct p0) (fun r_2 => if r_2 = 0 then pf_X3_gapIf_18 co ve pr rg rp rm rc ro p0 p1 p2 1 th ho cn tn tk sp ba else kv_q1 (pf_X3_refuses ho p1 p2) (fun r_11 => pf_X3_gapIf_18 co ve pr rg rp rm rc ro p0 p1 p2 r_11 th ho cn tn tk sp ba))
abbrev rmX3_gapIf : Room := { frames := 3, cells := 0, slots := 0, locals := 77 }
set_option maxHeartbeats 4000000 in
set_option maxRecDepth 100000 in
theorem c_X3_gapIf (l : Launch) (D : va_G) (ci md : Nat → Nat) (th : Int32) (nw : Int32) (co : Nat → Int32) (ho : Nat → Int32) (ve : Nat → Int32) (la : Nat → Int32) (pr : Nat → Int32) (rg : Int32) (rp : Nat → Int32) (rm : Nat → Int32) (rc : Nat → Int32) (re : Nat → Int32) (ro : Nat → Int32) (rl : Nat → Int32) (cn : Nat → Int32) (tn : Nat → Int32) (tk : Nat → Int32) (sp : Nat → Int32) (ba : Int32) (p0 : Int32) (p1 : Int32) (p2 : Int32)  (hRn : pf_X3_gapIf co ve pr rg rp rm rc ro p0 p1 p2 th ho cn tn tk sp ba ≠ none) (sz : Nat) : Met l yX3_gapIf wsX3_gapIf rmX3_gapIf (va_Pc [.ref (md 0), .int p0, .int p1, .int p2] (kv_pre D ci (kv_mw ci md th nw co ho ve la pr rg rp rm rc re ro rl cn tn tk sp ba) sz)) (va_Qi (fun (r : Int32) (u : Int32 × (Nat → Int32) × (Nat → Int32) × (Nat → Int32) × (Nat → Int32) × (Nat → Int32) × Int32) => pf_X3_gapIf co ve pr rg rp rm rc ro p0 p1 p2 th ho cn tn tk sp ba = some (r, u)) (fun u t => kv_post D (kv_mw ci md th nw co ho ve la pr rg rp rm rc re ro rl cn tn tk sp ba) sz (kv_mw ci md u.1 nw co u.2.1 ve la pr rg rp rm rc re ro rl u.2.2.1 u.2.2.2.1 u.2.2.2.2.1 u.2.2.2.2.2.1 u.2.2.2.2.2.2) t) (va_A (kv_mw ci md th nw co ho ve la pr rg rp rm rc re ro rl cn tn tk sp ba) sz)) 0 0 (va_A (kv_mw ci md th nw co ho ve la pr rg rp rm rc re ro rl cn tn tk sp ba) sz) := by
  refine Met.ofW (cc := cX3_gapIf) (maxL := 6) (ret := (some .int)) (by decide) rfl ?_
  intro p en s m args below meth c s₁ B hml hv
  obtain ⟨hv0, hsz, hP, hK, hD0⟩ := hv
  have hx := B.exec
  have hb := B.bytes
  have hr := B.returns
  have hts := atoms_spec (ws := wsX3_gapIf) B.pre
  have hown : s.vm.findClass RX3 = some m.cls := findClass_of_methodNamed B.named
  have hlocks := B.notSynchronized
  subst hsz
  have hD := hD0.self (sz := s.heap.size)
  generalize hAe : va_A (kv_mw ci md th nw co ho ve la pr rg rp rm rc re ro rl cn tn tk sp ba) s.heap.size = A at hD ⊢
  have hA : ∀ q : Nat, s.heap.size ≤ q → A q := fun q h => by rw [← hAe]; exact Or.inr h
  have hS : va_S A s.heap s.heap [] := va_S.rf
  have hP : va_P D vwCl (kv_mw ci md th nw co ho ve la pr rg rp rm rc re ro rl cn tn tk sp ba) s.heap := hP
  have hinRX3 : ∀ w ∈ u_ws RX3 TX3 19, w ∈ wsX3_gapIf := by decide +kernel
  generalize hRd : pf_X3_gapIf co ve pr rg rp rm rc ro p0 p1 p2 th ho cn tn tk sp ba = Rz at hRn
  have hRz := hRn
  refine kv_Q (fun Q hQ => ?_)
  refine W.eq (show entryFrame m args 6 = _ from by rw [hv0, lg_entry_eq]) ?_
  have hl := lv_entry ([.ref (md 0), .int p0, .int p1, .int p2]) (n := 6) (Nat.le_of_ble_eq_true rfl)
  generalize (lg_sl ([.ref (md 0), .int p0, .int p1, .int p2]) ++ List.replicate (6 - (lg_sl ([.ref (md 0), .int p0, .int p1, .int p2])).length) Slot.unset).toArray = ls at hl ⊢
  have hl : lv_has ls 6 [(0, .ref (md 0)), (1, .int p0), (2, .int p1), (3, .int p2)] := hl
  have e : Rz = pf_X3_gapIf co ve pr rg rp rm rc ro p0 p1 p2 th ho cn tn tk sp ba := hRd.symm
  rw [pf_X3_gapIf] at e
  have hb_18 : ∀ (z1 : Int32) (th : Int32) (ho : Nat → Int32) (cn : Nat → Int32) (tn : Nat → Int32) (tk : Nat → Int32) (sp : Nat → Int32) (ba : Int32) (H : Heap) (locs : List Loc) (ls : Array Slot), va_P D vwCl (kv_mw ci md th nw co ho ve la pr rg rp rm rc re ro rl cn tn tk sp ba) H → va_D A (kv_mw ci md th nw co ho ve la pr rg rp rm rc re ro rl cn tn tk sp ba) → va_S A s.heap H locs → lv_has ls 6 [(0, .ref (md 0)), (1, .int p0), (2, .int p1), (3, .int p2)] → Rz = pf_X3_gapIf_18 co ve pr rg rp rm rc ro p0 p1 p2  z1 th ho cn tn tk sp ba → W p l en rmX3_gapIf s m args below meth c H locs 0 0 Q (F0 m 18 ls [.int z1, .ref (md 0)]) := by
    intro z1 th ho cn tn tk sp ba H locs ls  hP hD hS hl e
    rw [pf_X3_gapIf_18] at e
    refine va_put (D := D) (ci := 4) (v := .int z1) (ty := .int) (C := RX3) (T := TX3) (N := 19) hx hb hts hinRX3 tyX3 tyX3_ok nmX3 hown hK hP hD hS 0 rfl rfl 0 (by decide) (hts (.fieldLink RX3 56 "LicenceKeeperModel" "thrown" "I") (by decide +kernel)) (fun _ h9 => h9) rfl (by decide +kernel) rfl rfl (Nat.le_of_ble_eq_true rfl) dX3_gapIf_18 (fun H locs hP hD hS => ?_)
    have hP : va_P D vwCl (kv_mw ci md z1 nw co ho ve la pr rg rp rm rc re ro rl cn tn tk sp ba) H := hP
    have hD : va_D A (kv_mw ci md z1 nw co ho ve la pr rg rp rm rc re ro rl cn tn tk sp ba) := hD
    refine lv_aload_n hx hb dX3_gapIf_21 rfl (lv_at hl 0 rfl) ?_
    refine va_get (D := D) (ci := 4) (v := .int z1) (C := RX3) (T := TX3) (N := 19) hx hb hts hinRX3 hown hK hP 0 rfl rfl 0 (by decide) (hts (.fieldLink RX3 56 "LicenceKeeperModel" "thrown" "I") (by decide +kernel)) (fun _ h9 => h9) rfl dX3_gapIf_22 ?_
    refine lv_if_le (tgt := 30) hx hb dX3_gapIf_25 (by decide) (fun c_25 => ?_) (fun c_25 => ?_)
    · have e := e.trans (if_pos c_25)
      refine lv_aload_n hx hb dX3_gapIf_30 rfl (lv_at hl 0 rfl) ?_
      refine va_get (D := D) (ci := 4) (v := .ref (md 2)) (C := RX3) (T := TX3) (N := 19) hx hb hts hinRX3 hown hK hP 0 rfl rfl 3 (by decide) (hts (.fieldLink RX3 13 "LicenceKeeperModel" "host" "[I") (by decide +kernel)) (fun _ h9 => h9) rfl dX3_gapIf_31 ?_
      refine lv_iload_n hx hb dX3_gapIf_34 rfl (lv_at hl 2 rfl) ?_
      obtain ⟨hi_35, e⟩ := kv_G_e e hRz
      refine kv_iald hx hb hK hP 2 0 hi_35 dX3_gapIf_35 rfl rfl (fun y_35 ey_35 => ?_)
      have e := kv_T_e e ey_35
      refine lv_istore (lv' := [(4, .int y_35), (0, .ref (md 0)), (1, .int p0), (2, .int p1), (3, .int p2)]) hx hb dX3_gapIf_36 hl (by decide) rfl (fun ls hl => ?_)
      refine lv_aload_n hx hb dX3_gapIf_38 rfl (lv_at hl 1 rfl) ?_
      refine va_get (D := D) (ci := 4) (v := .ref (md 2)) (C := RX3) (T := TX3) (N := 19) hx hb hts hinRX3 hown hK hP 0 rfl rfl 3 (by decide) (hts (.fieldLink RX3 13 "LicenceKeeperModel" "host" "[I") (by decide +kernel)) (fun _ h9 => h9) rfl dX3_gapIf_39 ?_
      refine lv_iload_n hx hb dX3_gapIf_42 rfl (lv_at hl 3 rfl) ?_
      refine lv_iload_n hx hb dX3_gapIf_43 rfl (lv_at hl 4 rfl) ?_
      obtain ⟨hi_44, e⟩ := kv_G_e e hRz
      refine kv_iast hx hb hK hP hD hS 2 0 (fun g_44 => (kv_mw ci md z1 nw co g_44 ve la pr rg rp rm rc re ro rl cn tn tk sp ba)) hi_44 dX3_gapIf_44 rfl rfl (fun _ => rfl) (fun g_44 H locs eg_44 hP hD hS => ?_)
      have e := kv_T_e e eg_44
      refine lv_aload_n hx hb dX3_gapIf_45 rfl (lv_at hl 1 rfl) ?_
      refine lv_iload_n hx hb dX3_gapIf_46 rfl (lv_at hl 2 rfl) ?_
      refine kv_calli (va_runV (As := [.int p0]) (rest := []) ⟨hx, hb, hml, hown, hts⟩ (c_X3_least l D ci md z1 nw co g_44 ve la pr rg rp rm rc re ro rl cn tn tk sp ba p0 (kv_q6_n e hRz) H.size) (cwV 1 hts gX3_gapIf_X3_least rfl rfl rfl (by decide +kernel) ⟨Nat.le_of_ble_eq_true rfl, Nat.le_of_ble_eq_true rfl⟩) (kv_preV hK hP hD (r := (RX3, TX3, 19)) (q0 := 0) (k := 4) rfl rfl rfl) rfl rfl hl.1 rfl (lv_room (Nat.le_of_ble_eq_true rfl)) dX3_gapIf_47 ⟨Nat.le_of_ble_eq_true rfl, Nat.le_of_ble_eq_true rfl⟩) hD hS hA (fun r_47 u_47 H locs hw_47 hP hD hS => ?_)
      obtain ⟨o0_47, o1_47, o2_47, o3_47, o4_47⟩ := u_47
      have e := kv_q6_e e hw_47
      have hP : va_P D vwCl (kv_mw ci md z1 nw co g_44 ve la pr rg rp rm rc re ro rl o0_47 o1_47 o2_47 o3_47 o4_47) H := hP
      have hD : va_D A (kv_mw ci md z1 nw co g_44 ve la pr rg rp rm rc re ro rl o0_47 o1_47 o2_47 o3_47 o4_47) := hD
      refine lv_istore (lv' := [(5, .int r_47), (4, .int y_35), (0, .ref (md 0)), (1, .int p0), (2, .int p1), (3, .int p2)]) hx hb dX3_gapIf_50 hl (by decide) rfl (fun ls hl => ?_)
      refine lv_aload_n hx hb dX3_gapIf_52 rfl (lv_at hl 2 rfl) ?_
      refine va_get (D := D) (ci := 4) (v := .ref (md 2)) (C := RX3) (T := TX3) (N := 19) hx hb hts hinRX3 hown hK hP 0 rfl rfl 3 (by decide) (hts (.fieldLink RX3 13 "LicenceKeeperModel" "host" "[I") (by decide +kernel)) (fun _ h9 => h9) rfl dX3_gapIf_53 ?_
      refine lv_iload_n hx hb dX3_gapIf_56 rfl (lv_at hl 4 rfl) ?_
      refine lv_iload hx hb dX3_gapIf_57 (lv_at hl 1 rfl) ?_
      obtain ⟨hi_59, e⟩ := kv_G_e e hRz
      refine kv_iast hx hb hK hP hD hS 2 0 (fun g_59 => (kv_mw ci md z1 nw co g_59 ve la pr rg rp rm rc re ro rl o0_47 o1_47 o2_47 o3_47 o4_47)) hi_59 dX3_gapIf_59 rfl rfl (fun _ => rfl) (fun g_59 H locs eg_59 hP hD hS => ?_)
      have e := kv_T_e e eg_59
      refine lv_iload hx hb dX3_gapIf_60 (lv_at hl 0 rfl) ?_
      rw [hQ]
      exact W.iret (v := r_47) hx hb hr (fun t ht hW => ⟨⟨r_47, (z1, g_59, o0_47, o1_47, o2_47, o3_47, o4_47), rfl, e, ⟨by rw [ht]; exact hP, by rw [hAe]; exact hD⟩⟩, hS.F ht⟩) hS.2.2 dX3_gapIf_62
    · have e := e.trans (if_neg c_25)
      refine lv_iconst (v := 0) hx hb dX3_gapIf_28 (by decide) ?_
      rw [hQ]
      exact W.iret (v := 0) hx hb hr (fun t ht hW => ⟨⟨0, (z1, ho, cn, tn, tk, sp, ba), rfl, e, ⟨by rw [ht]; exact hP, by rw [hAe]; exact hD⟩⟩, hS.F ht⟩) hS.2.2 dX3_gapIf_29
  refine lv_aload_n hx hb dX3_gapIf_0 rfl (lv_at hl 0 rfl) ?_
  refine lv_iload_n hx hb dX3_gapIf_1 rfl (lv_at hl 1 rfl) ?_
  refine kv_calli (va_runS (As := [.int p0]) (rest := [.ref (md 0)]) ⟨hx, hb, hml, hown, hts⟩ (c_X3_isProduct l D ci md th nw co ho ve la pr rg rp rm rc re ro rl cn tn tk sp ba p0 (kv_q1_n e hRz) s.heap.size) (va_cwS 1 hts gX3_gapIf_X3_isProduct rfl rfl rfl (by decide +kernel) ⟨Nat.le_of_ble_eq_true rfl, Nat.le_of_ble_eq_true rfl⟩) (kv_preS hK hP hD) rfl rfl hl.1 rfl (lv_room (Nat.le_of_ble_eq_true rfl)) dX3_gapIf_2 ⟨Nat.le_of_ble_eq_true rfl, Nat.le_of_ble_eq_true rfl⟩) hD hS hA (fun r_2 u_2 H locs hw_2 hP hD hS => ?_)
  have e := kv_q1_e e hw_2
  refine lv_if_eq (tgt := 17) hx hb dX3_gapIf_5 (by decide) (fun c_5 => ?_) (fun c_5 => ?_)
  · have e := e.trans (if_pos c_5)
    refine lv_iconst (v := 1) hx hb dX3_gapIf_17 (by decide) ?_
    exact hb_18 1 th ho cn tn tk sp ba  _ _ _ hP hD hS (lv_sub hl [0, 1, 2, 3] rfl) e
  · have e := e.trans (if_neg c_5)
    refine lv_aload_n hx hb dX3_gapIf_8 rfl (lv_at hl 0 rfl) ?_
    refine lv_iload_n hx hb dX3_gapIf_9 rfl (lv_at hl 2 rfl) ?_
    refine lv_iload_n hx hb dX3_gapIf_10 rfl (lv_at hl 3 rfl) ?_
    refine kv_calli (va_runV (As := [.int p1, .int p2]) (rest := [.ref (md 0)]) ⟨hx, hb, hml, hown, hts⟩ (c_X3_refuses l D ci md th nw co ho ve la pr rg rp rm rc re ro rl cn tn tk sp ba p1 p2 (kv_q1_n e hRz) H.size) (cwV 2 hts gX3_gapIf_X3_refuses rfl rfl rfl (by decide +kernel) ⟨Nat.le_of_ble_eq_true rfl, Nat.le_of_ble_eq_true rfl⟩) (kv_preV hK hP hD (r := (RX3, TX3, 19)) (q0 := 0) (k := 4) rfl rfl rfl) rfl rfl hl.1 rfl (lv_room (Nat.le_of_ble_eq_true rfl)) dX3_gapIf_11 ⟨Nat.le_of_ble_eq_true rfl, Nat.le_of_ble_eq_true rfl⟩) hD hS hA (fun r_11 u_11 H locs hw_11 hP hD hS => ?_)
    have e := kv_q1_e e hw_11
    refine lv_goto (tgt := 18) hx hb dX3_gapIf_14 (by decide) ?_
    exact hb_18 r_11 th ho cn tn tk sp ba  _ _ _ hP hD hS (lv_sub hl [0, 1, 2, 3] rfl) e

def pf_X3_spare_123 (co : Nat → Int32) (ho : Nat → Int32) (ve : Nat → Int32) (pr : Nat → Int32) (rg : Int32) (rp : Nat → Int32) (rm : Nat → Int32) (ro : Nat → Int32) (p0 : Int32) (k_43 : Int32 → Int32 → Int32 → Int32 → Int32 → (Nat → Int32) → (Nat → Int32) → (Nat → Int32) → (Nat → Int32) → (Nat → Int32) → Int32 → Option (Int32 × Int32 × (Nat → Int32) × (Nat → Int32) × (Nat → Int32) × (Nat → Int32) × (Nat → Int32) × Int32)) (x2 : Int32) (x3 : Int32) (x5 : Int32) (z0 : Int32) (th : Int32) (rc : Nat → Int32) (cn : Nat → Int32) (tn : Nat → Int32) (tk : Nat → Int32) (sp : Nat → Int32) (ba : Int32) : Option (Int32 × Int32 × (Nat → Int32) × (Nat → Int32) × (Nat → Int32) × (Nat → Int32) × (Nat → Int32) × Int32) :=
  k_43 x2 x3 z0 x5 th rc cn tn tk sp ba
def pf_X3_spare_105 (co : Nat → Int32) (ho : Nat → Int32) (ve : Nat → Int32) (pr : Nat → Int32) (rg : Int32) (rp : Nat → Int32) (rm : Nat → Int32) (ro : Nat → Int32) (p0 : Int32) (k_43 : Int32 → Int32 → Int32 → Int32 → Int32 → (Nat → Int32) → (Nat → Int32) → (Nat → Int32) → (Nat → Int32) → (Nat → Int32) → Int32 → Option (Int32 × Int32 × (Nat → Int32) × (Nat → Int32) × (Nat → Int32) × (Nat → Int32) × (Nat → Int32) × Int32)) (x2 : Int32) (x3 : Int32) (x4 : Int32) (x6 : Int32) (z0 : Int32) (th : Int32) (rc : Nat → Int32) (cn : Nat → Int32) (tn : Nat → Int32) (tk : Nat → Int32) (sp : Nat → Int32) (ba : Int32) : Option (Int32 × Int32 × (Nat → Int32) × (Nat → Int32) × (Nat → Int32) × (Nat → Int32) × (Nat → Int32) × Int32) :=
  if x6 = 0 then kv_G p0 12 (kv_T (rc p0.toNatClampNeg) (fun y_122 => pf_X3_spare_123 co ho ve pr rg rp rm ro p0 k_43 x2 x3 z0 y_122 th rc cn tn tk sp ba)) else pf_X3_spare_123 co ho ve pr rg rp rm ro p0 k_43 x2 x3 z0 x4 th rc cn tn tk sp ba
def pf_X3_spare_87 (co : Nat → Int32) (ho : Nat → Int32) (ve : Nat → Int32) (pr : Nat → Int32) (rg : Int32) (rp : Nat → Int32) (rm : Nat → Int32) (ro : Nat → Int32) (p0 : Int32) (k_43 : Int32 → Int32 → Int32 → Int32 → Int32 → (Nat → Int32) → (Nat → Int32) → (Nat → Int32) → (Nat → Int32) → (Nat → Int32) → Int32 → Option (Int32 × Int32 × (Nat → Int32) × (Nat → Int32) × (Nat → Int32) × (Nat → Int32) × (Nat → Int32) × Int32)) (x2 : Int32) (x3 : Int32) (x4 : Int32) (x5 : Int32) (z0 : Int32) (th : Int32) (rc : Nat → Int32) (cn : Nat → Int32) (tn : Nat → Int32) (tk : Nat → Int32) (sp : Nat → Int32) (ba : Int32) : Option (Int32 × Int32 × (Nat → Int32) × (Nat → Int32) × (Nat → Int32) × (Nat → Int32) × (Nat → Int32) × Int32) :=
  if z0 = 0 then pf_X3_spare_105 co ho ve pr rg rp rm ro p0 k_43 x2 x3 x4 z0 x5 th rc cn tn tk sp ba else kv_G p0 12 (kv_T (rc p0.toNatClampNeg) (fun y_99 => pf_X3_spare_105 co ho ve pr rg rp rm ro p0 k_43 x2 x3 x4 z0 y_99 th rc cn tn tk sp ba))
def pf_X3_spare_43b (co : Nat → Int32) (ho : Nat → Int32) (ve : Nat → Int32) (pr : Nat → Int32) (rg : Int32) (rp : Nat → Int32) (rm : Nat → Int32) (ro : Nat → Int32) (p0 : Int32)  (k_43 : Int32 → Int32 → Int32 → Int32 → Int32 → (Nat → Int32) → (Nat → Int32) → (Nat → Int32) → (Nat → Int32) → (Nat → Int32) → Int32 → Option (Int32 × Int32 × (Nat → Int32) × (Nat → Int32) × (Nat → Int32) × (Nat → Int32) × (Nat → Int32) × Int32)) (x2 : Int32) (x3 : Int32) (x4 : Int32) (x5 : Int32) (th : Int32) (rc : Nat → Int32) (cn : Nat → Int32) (tn : Nat → Int32) (tk : Nat → Int32) (sp : Nat → Int32) (ba : Int32) : Option (Int32 × Int32 × (Nat → Int32) × (Nat → Int32) × (Nat → Int32) × (Nat → Int32) × (Nat → Int32) × Int32) :=
  if (x5 - x4) ≤ 1 then kv_G p0 12 (kv_T (upd rc p0.toNatClampNeg x2) (fun g_134 => some ((x2 - x5), th, g_134, cn, tn, tk, sp, ba))) else kv_Z 2 (kv_G p0 12 (kv_T (upd rc p0.toNatClampNeg (x4 + ((x5 - x4) / 2))) (fun g_67 => kv_G p0 12 (kv_T (rp p0.toNatClampNeg) (fun y_74 => kv_q6 (pf_X3_least co ho ve pr rg rp rm g_67 ro y_74 cn tn tk sp ba) (fun r_75 o0_75 o1_75 o2_75 o3_75 o4_75 => if r_75 = x3 then pf_X3_spare_87 co ho ve pr rg rp rm ro p0 k_43 x2 x3 x4 x5 1 th g_67 o0_75 o1_75 o2_75 o3_75 o4_75 else pf_X3_spare_87 co ho ve pr rg rp rm ro p0 k_43 x2 x3 x4 x5 0 th g_67 o0_75 o1_75 o2_75 o3_75 o4_75))))))
def pf_X3_spare_43 (co : Nat → Int32) (ho : Nat → Int32) (ve : Nat → Int32) (pr : Nat → Int32) (rg : Int32) (rp : Nat → Int32) (rm : Nat → Int32) (ro : Nat → Int32) (p0 : Int32)  : Nat → Int32 → Int32 → Int32 → Int32 → Int32 → (Nat → Int32) → (Nat → Int32) → (Nat → Int32) → (Nat → Int32) → (Nat → Int32) → Int32 → Option (Int32 × Int32 × (Nat → Int32) × (Nat → Int32) × (Nat → Int32) × (Nat → Int32) × (Nat → Int32) × Int32)
  | 0, _, _, _, _, _, _, _, _, _, _, _ => none
  | nn + 1, x2, x3, x4, x5, th, rc, cn, tn, tk, sp, ba => pf_X3_spare_43b co ho ve pr rg rp rm ro p0  (pf_X3_spare_43 co ho ve pr rg rp rm ro p0  nn) x2 x3 x4 x5 th rc cn tn tk sp ba
def pf_X3_spare (co : Nat → Int32) (ho : Nat → Int32) (ve : Nat → Int32) (pr : Nat → Int32) (rg : Int32) (rp : Nat → Int32) (rm : Nat → Int32) (ro : Nat → Int32) (p0 : Int32) (th : Int32) (rc : Nat → Int32) (cn : Nat → Int32) (tn : Nat → Int32) (tk : Nat → Int32) (sp : Nat → Int32) (ba : Int32) : Option (Int32 × Int32 × (Nat → Int32) × (Nat → Int32) × (Nat → Int32) × (Nat → Int32) × (Nat → Int32) × Int32) :=
  kv_q1 (pf_X3_isRight rg p0) (fun r_7 => if r_7 = 0 then kv_q2 (pf_X3_fails 1 0) (fun r_15 u_15 => some (r_15, u_15, rc, cn, tn, tk, sp, ba)) else kv_G p0 12 (kv_T (rc p0.toNatClampNeg) (fun y_24 => kv_G p0 12 (kv_T (rp p0.toNatClampNeg) (fun y_32 => kv_q6 (pf_X3_least co ho ve pr rg rp rm rc ro y_32 cn tn tk sp ba) (fun r_33 o0_33 o1_33 o2_33 o3_33 o4_33 => pf_X3_spare_43 co ho ve pr rg rp rm ro p0 kv_F y_24 r_33 (-1) y_24 0 rc o0_33 o1_33 o2_33 o3_33 o4_33))))))
abbrev rmX3_spare : Room := { frames := 3, cells := 0, slots := 0, locals := 77 }
set_option maxHeartbeats 4000000 in
set_option maxRecDepth 100000 in
theorem c_X3_spare (l : Launch) (D : va_G) (ci md : Nat → Nat) (th : Int32) (nw : Int32) (co : Nat → Int32) (ho : Nat → Int32) (ve : Nat → Int32) (la : Nat → Int32) (pr : Nat → Int32) (rg : Int32) (rp : Nat → Int32) (rm : Nat → Int32) (rc : Nat → Int32) (re : Nat → Int32) (ro : Nat → Int32) (rl : Nat → Int32) (cn : Nat → Int32) (tn : Nat → Int32) (tk : Nat → Int32) (sp : Nat → Int32) (ba : Int32) (p0 : Int32)  (hRn : pf_X3_spare co ho ve pr rg rp rm ro p0 th rc cn tn tk sp ba ≠ none) (sz : Nat) : Met l yX3_spare wsX3_spare rmX3_spare (va_Pc [.ref (md 0), .int p0] (kv_pre D ci (kv_mw ci md th nw co ho ve la pr rg rp rm rc re ro rl cn tn tk sp ba) sz)) (va_Qi (fun (r : Int32) (u : Int32 × (Nat → Int32) × (Nat → Int32) × (Nat → Int32) × (Nat → Int32) × (Nat → Int32) × Int32) => pf_X3_spare co ho ve pr rg rp rm ro p0 th rc cn tn tk sp ba = some (r, u)) (fun u t => kv_post D (kv_mw ci md th nw co ho ve la pr rg rp rm rc re ro rl cn tn tk sp ba) sz (kv_mw ci md u.1 nw co ho ve la pr rg rp rm u.2.1 re ro rl u.2.2.1 u.2.2.2.1 u.2.2.2.2.1 u.2.2.2.2.2.1 u.2.2.2.2.2.2) t) (va_A (kv_mw ci md th nw co ho ve la pr rg rp rm rc re ro rl cn tn tk sp ba) sz)) 0 0 (va_A (kv_mw ci md th nw co ho ve la pr rg rp rm rc re ro rl cn tn tk sp ba) sz) := by
  refine Met.ofW (cc := cX3_spare) (maxL := 7) (ret := (some .int)) (by decide) rfl ?_
  intro p en s m args below meth c s₁ B hml hv
  obtain ⟨hv0, hsz, hP, hK, hD0⟩ := hv
  have hx := B.exec
  have hb := B.bytes
  have hr := B.returns
  have hts := atoms_spec (ws := wsX3_spare) B.pre
  have hown : s.vm.findClass RX3 = some m.cls := findClass_of_methodNamed B.named
  have hlocks := B.notSynchronized
  subst hsz
  have hD := hD0.self (sz := s.heap.size)
  generalize hAe : va_A (kv_mw ci md th nw co ho ve la pr rg rp rm rc re ro rl cn tn tk sp ba) s.heap.size = A at hD ⊢
  have hA : ∀ q : Nat, s.heap.size ≤ q → A q := fun q h => by rw [← hAe]; exact Or.inr h
  have hS : va_S A s.heap s.heap [] := va_S.rf
  have hP : va_P D vwCl (kv_mw ci md th nw co ho ve la pr rg rp rm rc re ro rl cn tn tk sp ba) s.heap := hP
  have hinRX3 : ∀ w ∈ u_ws RX3 TX3 19, w ∈ wsX3_spare := by decide +kernel
  generalize hRd : pf_X3_spare co ho ve pr rg rp rm ro p0 th rc cn tn tk sp ba = Rz at hRn
  have hRz := hRn
  refine kv_Q (fun Q hQ => ?_)
  refine W.eq (show entryFrame m args 7 = _ from by rw [hv0, lg_entry_eq]) ?_
  have hl := lv_entry ([.ref (md 0), .int p0]) (n := 7) (Nat.le_of_ble_eq_true rfl)
  generalize (lg_sl ([.ref (md 0), .int p0]) ++ List.replicate (7 - (lg_sl ([.ref (md 0), .int p0])).length) Slot.unset).toArray = ls at hl ⊢
  have hl : lv_has ls 7 [(0, .ref (md 0)), (1, .int p0)] := hl
  have e : Rz = pf_X3_spare co ho ve pr rg rp rm ro p0 th rc cn tn tk sp ba := hRd.symm
  rw [pf_X3_spare] at e
  have hb_43 : ∀ (n_43 : Nat), ∀ (x2 : Int32) (x3 : Int32) (x4 : Int32) (x5 : Int32) (th : Int32) (rc : Nat → Int32) (cn : Nat → Int32) (tn : Nat → Int32) (tk : Nat → Int32) (sp : Nat → Int32) (ba : Int32) (H : Heap) (locs : List Loc) (ls : Array Slot), va_P D vwCl (kv_mw ci md th nw co ho ve la pr rg rp rm rc re ro rl cn tn tk sp ba) H → va_D A (kv_mw ci md th nw co ho ve la pr rg rp rm rc re ro rl cn tn tk sp ba) → va_S A s.heap H locs → lv_has ls 7 [(0, .ref (md 0)), (1, .int p0), (2, .int x2), (3, .int x3), (4, .int x4), (5, .int x5)] → Rz = pf_X3_spare_43 co ho ve pr rg rp rm ro p0  n_43 x2 x3 x4 x5 th rc cn tn tk sp ba → W p l en rmX3_spare s m args below meth c H locs 0 0 Q (F0 m 43 ls []) := by
    intro n_43
    induction n_43 with
    | zero =>
      intro x2 x3 x4 x5 th rc cn tn tk sp ba H locs ls  _ _ _ _ e
      exact absurd e hRz
    | succ n_43 ih_43 =>
      have hb_123 : ∀ (x2 : Int32) (x3 : Int32) (x5 : Int32) (z0 : Int32) (th : Int32) (rc : Nat → Int32) (cn : Nat → Int32) (tn : Nat → Int32) (tk : Nat → Int32) (sp : Nat → Int32) (ba : Int32) (H : Heap) (locs : List Loc) (ls : Array Slot), va_P D vwCl (kv_mw ci md th nw co ho ve la pr rg rp rm rc re ro rl cn tn tk sp ba) H → va_D A (kv_mw ci md th nw co ho ve la pr rg rp rm rc re ro rl cn tn tk sp ba) → va_S A s.heap H locs → lv_has ls 7 [(0, .ref (md 0)), (1, .int p0), (2, .int x2), (3, .int x3), (5, .int x5)] → Rz = pf_X3_spare_123 co ho ve pr rg rp rm ro p0 (pf_X3_spare_43 co ho ve pr rg rp rm ro p0  n_43) x2 x3 x5 z0 th rc cn tn tk sp ba → W p l en rmX3_spare s m args below meth c H locs 0 0 Q (F0 m 123 ls [.int z0]) := by
        intro x2 x3 x5 z0 th rc cn tn tk sp ba H locs ls  hP hD hS hl e
        rw [pf_X3_spare_123] at e
        refine lv_istore (lv' := [(4, .int z0), (0, .ref (md 0)), (1, .int p0), (2, .int x2), (3, .int x3), (5, .int x5)]) hx hb dX3_spare_123 hl (by decide) rfl (fun ls hl => ?_)
        refine lv_goto (tgt := 43) hx hb dX3_spare_125 (by decide) ?_
        exact ih_43 x2 x3 z0 x5 th rc cn tn tk sp ba  _ _ _ hP hD hS (lv_sub hl [1, 2, 3, 4, 0, 5] rfl) e
      have hb_105 : ∀ (x2 : Int32) (x3 : Int32) (x4 : Int32) (x6 : Int32) (z0 : Int32) (th : Int32) (rc : Nat → Int32) (cn : Nat → Int32) (tn : Nat → Int32) (tk : Nat → Int32) (sp : Nat → Int32) (ba : Int32) (H : Heap) (locs : List Loc) (ls : Array Slot), va_P D vwCl (kv_mw ci md th nw co ho ve la pr rg rp rm rc re ro rl cn tn tk sp ba) H → va_D A (kv_mw ci md th nw co ho ve la pr rg rp rm rc re ro rl cn tn tk sp ba) → va_S A s.heap H locs → lv_has ls 7 [(0, .ref (md 0)), (1, .int p0), (2, .int x2), (3, .int x3), (4, .int x4), (6, .int x6)] → Rz = pf_X3_spare_105 co ho ve pr rg rp rm ro p0 (pf_X3_spare_43 co ho ve pr rg rp rm ro p0  n_43) x2 x3 x4 x6 z0 th rc cn tn tk sp ba → W p l en rmX3_spare s m args below meth c H locs 0 0 Q (F0 m 105 ls [.int z0]) := by
        intro x2 x3 x4 x6 z0 th rc cn tn tk sp ba H locs ls  hP hD hS hl e
        rw [pf_X3_spare_105] at e
        refine lv_istore (lv' := [(5, .int z0), (0, .ref (md 0)), (1, .int p0), (2, .int x2), (3, .int x3), (4, .int x4), (6, .int x6)]) hx hb dX3_spare_105 hl (by decide) rfl (fun ls hl => ?_)
        refine lv_iload hx hb dX3_spare_107 (lv_at hl 6 rfl) ?_
        refine lv_if_eq (tgt := 117) hx hb dX3_spare_109 (by decide) (fun c_109 => ?_) (fun c_109 => ?_)
        · have e := e.trans (if_pos c_109)
          refine lv_aload_n hx hb dX3_spare_117 rfl (lv_at hl 1 rfl) ?_
          refine va_get (D := D) (ci := 4) (v := .ref (md 8)) (C := RX3) (T := TX3) (N := 19) hx hb hts hinRX3 hown hK hP 0 rfl rfl 10 (by decide) (hts (.fieldLink RX3 31 "LicenceKeeperModel" "count" "[I") (by decide +kernel)) (fun _ h9 => h9) rfl dX3_spare_118 ?_
          refine lv_iload_n hx hb dX3_spare_121 rfl (lv_at hl 2 rfl) ?_
          obtain ⟨hi_122, e⟩ := kv_G_e e hRz
          refine kv_iald hx hb hK hP 8 0 hi_122 dX3_spare_122 rfl rfl (fun y_122 ey_122 => ?_)
          have e := kv_T_e e ey_122
          exact hb_123 x2 x3 z0 y_122 th rc cn tn tk sp ba  _ _ _ hP hD hS (lv_sub hl [1, 2, 3, 4, 0] rfl) e
        · have e := e.trans (if_neg c_109)
          refine lv_iload hx hb dX3_spare_112 (lv_at hl 5 rfl) ?_
          refine lv_goto (tgt := 123) hx hb dX3_spare_114 (by decide) ?_
          exact hb_123 x2 x3 z0 x4 th rc cn tn tk sp ba  _ _ _ hP hD hS (lv_sub hl [1, 2, 3, 4, 0] rfl) e
      have hb_87 : ∀ (x2 : Int32) (x3 : Int32) (x4 : Int32) (x5 : Int32) (z0 : Int32) (th : Int32) (rc : Nat → Int32) (cn : Nat → Int32) (tn : Nat → Int32) (tk : Nat → Int32) (sp : Nat → Int32) (ba : Int32) (H : Heap) (locs : List Loc) (ls : Array Slot), va_P D vwCl (kv_mw ci md th nw co ho ve la pr rg rp rm rc re ro rl cn tn tk sp ba) H → va_D A (kv_mw ci md th nw co ho ve la pr rg rp rm rc re ro rl cn tn tk sp ba) → va_S A s.heap H locs → lv_has ls 7 [(0, .ref (md 0)), (1, .int p0), (2, .int x2), (3, .int x3), (4, .int x4), (5, .int x5)] → Rz = pf_X3_spare_87 co ho ve pr rg rp rm ro p0 (pf_X3_spare_43 co ho ve pr rg rp rm ro p0  n_43) x2 x3 x4 x5 z0 th rc cn tn tk sp ba → W p l en rmX3_spare s m args below meth c H locs 0 0 Q (F0 m 87 ls [.int z0]) := by
        intro x2 x3 x4 x5 z0 th rc cn tn tk sp ba H locs ls  hP hD hS hl e
        rw [pf_X3_spare_87] at e
        refine lv_istore (lv' := [(6, .int z0), (0, .ref (md 0)), (1, .int p0), (2, .int x2), (3, .int x3), (4, .int x4), (5, .int x5)]) hx hb dX3_spare_87 hl (by decide) rfl (fun ls hl => ?_)
        refine lv_iload hx hb dX3_spare_89 (lv_at hl 0 rfl) ?_
        refine lv_if_eq (tgt := 103) hx hb dX3_spare_91 (by decide) (fun c_91 => ?_) (fun c_91 => ?_)
        · have e := e.trans (if_pos c_91)
          refine lv_iload hx hb dX3_spare_103 (lv_at hl 6 rfl) ?_
          exact hb_105 x2 x3 x4 z0 x5 th rc cn tn tk sp ba  _ _ _ hP hD hS (lv_sub hl [1, 2, 3, 4, 5, 0] rfl) e
        · have e := e.trans (if_neg c_91)
          refine lv_aload_n hx hb dX3_spare_94 rfl (lv_at hl 1 rfl) ?_
          refine va_get (D := D) (ci := 4) (v := .ref (md 8)) (C := RX3) (T := TX3) (N := 19) hx hb hts hinRX3 hown hK hP 0 rfl rfl 10 (by decide) (hts (.fieldLink RX3 31 "LicenceKeeperModel" "count" "[I") (by decide +kernel)) (fun _ h9 => h9) rfl dX3_spare_95 ?_
          refine lv_iload_n hx hb dX3_spare_98 rfl (lv_at hl 2 rfl) ?_
          obtain ⟨hi_99, e⟩ := kv_G_e e hRz
          refine kv_iald hx hb hK hP 8 0 hi_99 dX3_spare_99 rfl rfl (fun y_99 ey_99 => ?_)
          have e := kv_T_e e ey_99
          refine lv_goto (tgt := 105) hx hb dX3_spare_100 (by decide) ?_
          exact hb_105 x2 x3 x4 z0 y_99 th rc cn tn tk sp ba  _ _ _ hP hD hS (lv_sub hl [1, 2, 3, 4, 5, 0] rfl) e
      intro x2 x3 x4 x5 th rc cn tn tk sp ba H locs ls  hP hD hS hl e
      rw [pf_X3_spare_43, pf_X3_spare_43b] at e
      refine lv_iload hx hb dX3_spare_43 (lv_at hl 5 rfl) ?_
      refine lv_iload hx hb dX3_spare_45 (lv_at hl 4 rfl) ?_
      refine lv_isub hx hb dX3_spare_47 ?_
      refine lv_iconst (v := 1) hx hb dX3_spare_48 (by decide) ?_
      refine lv_icmp_le (tgt := 128) hx hb dX3_spare_49 (by decide) (fun c_49 => ?_) (fun c_49 => ?_)
      · have e := e.trans (if_pos c_49)
        refine lv_aload_n hx hb dX3_spare_128 rfl (lv_at hl 0 rfl) ?_
        refine va_get (D := D) (ci := 4) (v := .ref (md 8)) (C := RX3) (T := TX3) (N := 19) hx hb hts hinRX3 hown hK hP 0 rfl rfl 10 (by decide) (hts (.fieldLink RX3 31 "LicenceKeeperModel" "count" "[I") (by decide +kernel)) (fun _ h9 => h9) rfl dX3_spare_129 ?_
        refine lv_iload_n hx hb dX3_spare_132 rfl (lv_at hl 1 rfl) ?_
        refine lv_iload_n hx hb dX3_spare_133 rfl (lv_at hl 2 rfl) ?_
        obtain ⟨hi_134, e⟩ := kv_G_e e hRz
        refine kv_iast hx hb hK hP hD hS 8 0 (fun g_134 => (kv_mw ci md th nw co ho ve la pr rg rp rm g_134 re ro rl cn tn tk sp ba)) hi_134 dX3_spare_134 rfl rfl (fun _ => rfl) (fun g_134 H locs eg_134 hP hD hS => ?_)
        have e := kv_T_e e eg_134
        refine lv_iload_n hx hb dX3_spare_135 rfl (lv_at hl 2 rfl) ?_
        refine lv_iload hx hb dX3_spare_136 (lv_at hl 5 rfl) ?_
        refine lv_isub hx hb dX3_spare_138 ?_
        rw [hQ]
        exact W.iret (v := (x2 - x5)) hx hb hr (fun t ht hW => ⟨⟨(x2 - x5), (th, g_134, cn, tn, tk, sp, ba), rfl, e, ⟨by rw [ht]; exact hP, by rw [hAe]; exact hD⟩⟩, hS.F ht⟩) hS.2.2 dX3_spare_139
      · have e := e.trans (if_neg c_49)
        refine lv_aload_n hx hb dX3_spare_52 rfl (lv_at hl 0 rfl) ?_
        refine va_get (D := D) (ci := 4) (v := .ref (md 8)) (C := RX3) (T := TX3) (N := 19) hx hb hts hinRX3 hown hK hP 0 rfl rfl 10 (by decide) (hts (.fieldLink RX3 31 "LicenceKeeperModel" "count" "[I") (by decide +kernel)) (fun _ h9 => h9) rfl dX3_spare_53 ?_
        refine lv_iload_n hx hb dX3_spare_56 rfl (lv_at hl 1 rfl) ?_
        refine lv_iload hx hb dX3_spare_57 (lv_at hl 4 rfl) ?_
        refine lv_iload hx hb dX3_spare_59 (lv_at hl 5 rfl) ?_
        refine lv_iload hx hb dX3_spare_61 (lv_at hl 4 rfl) ?_
        refine lv_isub hx hb dX3_spare_63 ?_
        refine lv_iconst (v := 2) hx hb dX3_spare_64 (by decide) ?_
        obtain ⟨hz_65, e⟩ := kv_Z_e e hRz
        refine lv_idiv hx hb dX3_spare_65 hz_65 ?_
        refine lv_iadd hx hb dX3_spare_66 ?_
        obtain ⟨hi_67, e⟩ := kv_G_e e hRz
        refine kv_iast hx hb hK hP hD hS 8 0 (fun g_67 => (kv_mw ci md th nw co ho ve la pr rg rp rm g_67 re ro rl cn tn tk sp ba)) hi_67 dX3_spare_67 rfl rfl (fun _ => rfl) (fun g_67 H locs eg_67 hP hD hS => ?_)
        have e := kv_T_e e eg_67
        refine lv_aload_n hx hb dX3_spare_68 rfl (lv_at hl 0 rfl) ?_
        refine lv_aload_n hx hb dX3_spare_69 rfl (lv_at hl 0 rfl) ?_
        refine va_get (D := D) (ci := 4) (v := .ref (md 6)) (C := RX3) (T := TX3) (N := 19) hx hb hts hinRX3 hown hK hP 0 rfl rfl 8 (by decide) (hts (.fieldLink RX3 25 "LicenceKeeperModel" "product" "[I") (by decide +kernel)) (fun _ h9 => h9) rfl dX3_spare_70 ?_
        refine lv_iload_n hx hb dX3_spare_73 rfl (lv_at hl 1 rfl) ?_
        obtain ⟨hi_74, e⟩ := kv_G_e e hRz
        refine kv_iald hx hb hK hP 6 0 hi_74 dX3_spare_74 rfl rfl (fun y_74 ey_74 => ?_)
        have e := kv_T_e e ey_74
        refine kv_calli (va_runV (As := [.int y_74]) (rest := []) ⟨hx, hb, hml, hown, hts⟩ (c_X3_least l D ci md th nw co ho ve la pr rg rp rm g_67 re ro rl cn tn tk sp ba y_74 (kv_q6_n e hRz) H.size) (cwV 1 hts gX3_spare_X3_least rfl rfl rfl (by decide +kernel) ⟨Nat.le_of_ble_eq_true rfl, Nat.le_of_ble_eq_true rfl⟩) (kv_preV hK hP hD (r := (RX3, TX3, 19)) (q0 := 0) (k := 4) rfl rfl rfl) rfl rfl hl.1 rfl (lv_room (Nat.le_of_ble_eq_true rfl)) dX3_spare_75 ⟨Nat.le_of_ble_eq_true rfl, Nat.le_of_ble_eq_true rfl⟩) hD hS hA (fun r_75 u_75 H locs hw_75 hP hD hS => ?_)
        obtain ⟨o0_75, o1_75, o2_75, o3_75, o4_75⟩ := u_75
        have e := kv_q6_e e hw_75
        have hP : va_P D vwCl (kv_mw ci md th nw co ho ve la pr rg rp rm g_67 re ro rl o0_75 o1_75 o2_75 o3_75 o4_75) H := hP
        have hD : va_D A (kv_mw ci md th nw co ho ve la pr rg rp rm g_67 re ro rl o0_75 o1_75 o2_75 o3_75 o4_75) := hD
        refine lv_iload_n hx hb dX3_spare_78 rfl (lv_at hl 3 rfl) ?_
        refine lv_icmp_ne (tgt := 86) hx hb dX3_spare_79 (by decide) (fun c_79 => ?_) (fun c_79 => ?_)
        · have e := e.trans (if_neg c_79)
          refine lv_iconst (v := 0) hx hb dX3_spare_86 (by decide) ?_
          exact hb_87 x2 x3 x4 x5 0 th g_67 o0_75 o1_75 o2_75 o3_75 o4_75  _ _ _ hP hD hS (lv_sub hl [0, 1, 2, 3, 4, 5] rfl) e
        · have e := e.trans (if_pos c_79)
          refine lv_iconst (v := 1) hx hb dX3_spare_82 (by decide) ?_
          refine lv_goto (tgt := 87) hx hb dX3_spare_83 (by decide) ?_
          exact hb_87 x2 x3 x4 x5 1 th g_67 o0_75 o1_75 o2_75 o3_75 o4_75  _ _ _ hP hD hS (lv_sub hl [0, 1, 2, 3, 4, 5] rfl) e
  refine lv_aload_n hx hb dX3_spare_0 rfl (lv_at hl 0 rfl) ?_
  refine lv_iconst (v := 0) hx hb dX3_spare_1 (by decide) ?_
  refine va_put (D := D) (ci := 4) (v := .int 0) (ty := .int) (C := RX3) (T := TX3) (N := 19) hx hb hts hinRX3 tyX3 tyX3_ok nmX3 hown hK hP hD hS 0 rfl rfl 0 (by decide) (hts (.fieldLink RX3 56 "LicenceKeeperModel" "thrown" "I") (by decide +kernel)) (fun _ h9 => h9) rfl (by decide +kernel) rfl rfl (Nat.le_of_ble_eq_true rfl) dX3_spare_2 (fun H locs hP hD hS => ?_)
  have hP : va_P D vwCl (kv_mw ci md 0 nw co ho ve la pr rg rp rm rc re ro rl cn tn tk sp ba) H := hP
  have hD : va_D A (kv_mw ci md 0 nw co ho ve la pr rg rp rm rc re ro rl cn tn tk sp ba) := hD
  refine lv_aload_n hx hb dX3_spare_5 rfl (lv_at hl 0 rfl) ?_
  refine lv_iload_n hx hb dX3_spare_6 rfl (lv_at hl 1 rfl) ?_
  refine kv_calli (va_runV (As := [.int p0]) (rest := []) ⟨hx, hb, hml, hown, hts⟩ (c_X3_isRight l D ci md 0 nw co ho ve la pr rg rp rm rc re ro rl cn tn tk sp ba p0 (kv_q1_n e hRz) H.size) (cwV 1 hts gX3_spare_X3_isRight rfl rfl rfl (by decide +kernel) ⟨Nat.le_of_ble_eq_true rfl, Nat.le_of_ble_eq_true rfl⟩) (kv_preV hK hP hD (r := (RX3, TX3, 19)) (q0 := 0) (k := 4) rfl rfl rfl) rfl rfl hl.1 rfl (lv_room (Nat.le_of_ble_eq_true rfl)) dX3_spare_7 ⟨Nat.le_of_ble_eq_true rfl, Nat.le_of_ble_eq_true rfl⟩) hD hS hA (fun r_7 u_7 H locs hw_7 hP hD hS => ?_)
  have e := kv_q1_e e hw_7
  refine lv_if_ne (tgt := 19) hx hb dX3_spare_10 (by decide) (fun c_10 => ?_) (fun c_10 => ?_)
  · have e := e.trans (if_neg c_10)
    refine lv_aload_n hx hb dX3_spare_19 rfl (lv_at hl 0 rfl) ?_
    refine va_get (D := D) (ci := 4) (v := .ref (md 8)) (C := RX3) (T := TX3) (N := 19) hx hb hts hinRX3 hown hK hP 0 rfl rfl 10 (by decide) (hts (.fieldLink RX3 31 "LicenceKeeperModel" "count" "[I") (by decide +kernel)) (fun _ h9 => h9) rfl dX3_spare_20 ?_
    refine lv_iload_n hx hb dX3_spare_23 rfl (lv_at hl 1 rfl) ?_
    obtain ⟨hi_24, e⟩ := kv_G_e e hRz
    refine kv_iald hx hb hK hP 8 0 hi_24 dX3_spare_24 rfl rfl (fun y_24 ey_24 => ?_)
    have e := kv_T_e e ey_24
    refine lv_istore_n (lv' := [(2, .int y_24), (0, .ref (md 0)), (1, .int p0)]) hx hb dX3_spare_25 rfl hl (by decide) rfl (fun ls hl => ?_)
    refine lv_aload_n hx hb dX3_spare_26 rfl (lv_at hl 1 rfl) ?_
    refine lv_aload_n hx hb dX3_spare_27 rfl (lv_at hl 1 rfl) ?_
    refine va_get (D := D) (ci := 4) (v := .ref (md 6)) (C := RX3) (T := TX3) (N := 19) hx hb hts hinRX3 hown hK hP 0 rfl rfl 8 (by decide) (hts (.fieldLink RX3 25 "LicenceKeeperModel" "product" "[I") (by decide +kernel)) (fun _ h9 => h9) rfl dX3_spare_28 ?_
    refine lv_iload_n hx hb dX3_spare_31 rfl (lv_at hl 2 rfl) ?_
    obtain ⟨hi_32, e⟩ := kv_G_e e hRz
    refine kv_iald hx hb hK hP 6 0 hi_32 dX3_spare_32 rfl rfl (fun y_32 ey_32 => ?_)
    have e := kv_T_e e ey_32
    refine kv_calli (va_runV (As := [.int y_32]) (rest := []) ⟨hx, hb, hml, hown, hts⟩ (c_X3_least l D ci md 0 nw co ho ve la pr rg rp rm rc re ro rl cn tn tk sp ba y_32 (kv_q6_n e hRz) H.size) (cwV 1 hts gX3_spare_X3_least rfl rfl rfl (by decide +kernel) ⟨Nat.le_of_ble_eq_true rfl, Nat.le_of_ble_eq_true rfl⟩) (kv_preV hK hP hD (r := (RX3, TX3, 19)) (q0 := 0) (k := 4) rfl rfl rfl) rfl rfl hl.1 rfl (lv_room (Nat.le_of_ble_eq_true rfl)) dX3_spare_33 ⟨Nat.le_of_ble_eq_true rfl, Nat.le_of_ble_eq_true rfl⟩) hD hS hA (fun r_33 u_33 H locs hw_33 hP hD hS => ?_)
    obtain ⟨o0_33, o1_33, o2_33, o3_33, o4_33⟩ := u_33
    have e := kv_q6_e e hw_33
    have hP : va_P D vwCl (kv_mw ci md 0 nw co ho ve la pr rg rp rm rc re ro rl o0_33 o1_33 o2_33 o3_33 o4_33) H := hP
    have hD : va_D A (kv_mw ci md 0 nw co ho ve la pr rg rp rm rc re ro rl o0_33 o1_33 o2_33 o3_33 o4_33) := hD
    refine lv_istore_n (lv' := [(3, .int r_33), (2, .int y_24), (0, .ref (md 0)), (1, .int p0)]) hx hb dX3_spare_36 rfl hl (by decide) rfl (fun ls hl => ?_)
    refine lv_iconst (v := (-1)) hx hb dX3_spare_37 (by decide) ?_
    refine lv_istore (lv' := [(4, .int (-1)), (3, .int r_33), (2, .int y_24), (0, .ref (md 0)), (1, .int p0)]) hx hb dX3_spare_38 hl (by decide) rfl (fun ls hl => ?_)
    refine lv_iload_n hx hb dX3_spare_40 rfl (lv_at hl 2 rfl) ?_
    refine lv_istore (lv' := [(5, .int y_24), (4, .int (-1)), (3, .int r_33), (2, .int y_24), (0, .ref (md 0)), (1, .int p0)]) hx hb dX3_spare_41 hl (by decide) rfl (fun ls hl => ?_)
    exact hb_43 kv_F y_24 r_33 (-1) y_24 0 rc o0_33 o1_33 o2_33 o3_33 o4_33  _ _ _ hP hD hS (lv_sub hl [4, 5, 3, 2, 1, 0] rfl) e
  · have e := e.trans (if_pos c_10)
    refine lv_aload_n hx hb dX3_spare_13 rfl (lv_at hl 0 rfl) ?_
    refine lv_iconst (v := 1) hx hb dX3_spare_14 (by decide) ?_
    refine kv_calli (va_runV (As := [.int 1]) (rest := []) ⟨hx, hb, hml, hown, hts⟩ (c_X3_fails l D ci md 0 nw co ho ve la pr rg rp rm rc re ro rl cn tn tk sp ba 1 (kv_q2_n e hRz) H.size) (cwV 1 hts gX3_spare_X3_fails rfl rfl rfl (by decide +kernel) ⟨Nat.le_of_ble_eq_true rfl, Nat.le_of_ble_eq_true rfl⟩) (kv_preV hK hP hD (r := (RX3, TX3, 19)) (q0 := 0) (k := 4) rfl rfl rfl) rfl rfl hl.1 rfl (lv_room (Nat.le_of_ble_eq_true rfl)) dX3_spare_15 ⟨Nat.le_of_ble_eq_true rfl, Nat.le_of_ble_eq_true rfl⟩) hD hS hA (fun r_15 u_15 H locs hw_15 hP hD hS => ?_)
    have e := kv_q2_e e hw_15
    have hP : va_P D vwCl (kv_mw ci md u_15 nw co ho ve la pr rg rp rm rc re ro rl cn tn tk sp ba) H := hP
    have hD : va_D A (kv_mw ci md u_15 nw co ho ve la pr rg rp rm rc re ro rl cn tn tk sp ba) := hD
    rw [hQ]
    exact W.iret (v := r_15) hx hb hr (fun t ht hW => ⟨⟨r_15, (u_15, rc, cn, tn, tk, sp, ba), rfl, e, ⟨by rw [ht]; exact hP, by rw [hAe]; exact hD⟩⟩, hS.F ht⟩) hS.2.2 dX3_spare_18
