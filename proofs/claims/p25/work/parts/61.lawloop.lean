section KVST
set_option maxHeartbeats 8000000 in
set_option maxRecDepth 100000 in
theorem law_is {p : Program} {l : Launch} {en : Env} {s : State} {m : MethodId} {below : List Frame} {meth : Method} {c : Code} {D : va_G} {ci la ad : Nat → Nat} {aS b L : Nat} {xs : Nat → Int32} (hL : L ≤ 260) (hC : law_C p l s m meth c D ci aS b L xs) {t : Nat} {z : Int32} {cm sm : Nat} (hcm : cm ≤ 40000) (hsm : sm ≤ 400000) (hk : law_K p l en s m below meth c D ci la ad aS b (nI (t + 1)) 82 (cm + 10) (sm + 60)) : law_K2 p l en s m below meth c D ci la ad aS b (nI t) z 276 cm sm := by
  intro cl sl lm lp lr lq kc kh ks fo kl kp dy mo n pa aE qp qm ql qv qc qe mt mv sw hv tk tn sc H locs ls hcl hsl hI hE hP hD hS hl
  obtain ⟨⟨hx, hb, hr, hml, hown, hts0, hX, hbl, hlocks, hgv⟩, hl9, hT, hT2, hN, hK⟩ := id hC
  have hown : s.vm.findClass RL = some m.cls := hown
  have hts := fun w h => hts0 w (wsL_law_in w h)
  have hA : ∀ q : Nat, s.heap.size ≤ q → (fun q : Nat => s.heap.size ≤ q) q := fun _ h => h
  have hbA : ¬ (fun q : Nat => s.heap.size ≤ q) b := Nat.not_le.mpr hbl
  obtain ⟨w1, w2, w3, w4, w5, w6, w7, w8, w9, w10, w11, e9, hI9⟩ := u_isSo lp kc kh fo kl kp dy n qp qm ql qv qc qe (z >>> (3 &&& 31)) ks mt mv hv tk tn sc hI
  refine lv_iload hx hb dL_law_276 (lv_at hl 0 rfl) ?_
  refine lv_if_eq (tgt := 298) hx hb dL_law_278 (by decide) (fun c9 => absurd c9 n10) (fun _ => ?_)
  refine lv_aload_n hx hb dL_law_281 rfl (lv_at hl 3 rfl) ?_
  refine lv_iload hx hb dL_law_282 (lv_at hl 1 rfl) ?_
  refine lv_iconst (v := 3) hx hb dL_law_284 (by decide) ?_
  refine lv_ishr hx hb dL_law_285 ?_
  refine lv_aload_n hx hb dL_law_286 rfl (lv_at hl 4 rfl) ?_
  refine lv_aload_n hx hb dL_law_287 rfl (lv_at hl 5 rfl) ?_
  refine lv_aload hx hb dL_law_288 (lv_at hl 6 rfl) ?_
  refine lv_aload hx hb dL_law_290 (lv_at hl 7 rfl) ?_
  refine kv_calli (va_runS (As := [.ref (ad 0), .int (z >>> (3 &&& 31)), .ref (la 0), .ref (la 1), .ref (la 2), .ref (la 3)]) (rest := []) ⟨hx, hb, hml, hown, hts⟩ (c_L_isSo l hl9 D ci la ad aS lm lp lr lq kc kh ks fo kl kp dy mo n pa aE qp qm ql qv qc qe mt mv sw hv tk tn sc (z >>> (3 &&& 31)) (by rw [e9]; exact Option.some_ne_none _) H.size) (va_cwS 6 hts gL_law_L_isSo rfl rfl rfl (by decide +kernel) ⟨Nat.le_of_ble_eq_true rfl, Nat.le_of_ble_eq_true rfl⟩) (kv_preSW hK hP hD hT hT2 hN hS hA) rfl rfl hl.1 rfl (lv_room (Nat.le_of_ble_eq_true rfl)) dL_law_292 ⟨kv_room1 (by omega), kv_room2 (by omega)⟩) hD hS hA (fun r u H locs hw hP hD hS => ?_)
  obtain ⟨o0, o1, o2, o3, o4, o5, o6, o7, o8, o9, o10⟩ := u
  have q9 := Option.some.inj (hw.symm.trans e9)
  simp only [Prod.mk.injEq] at q9
  obtain ⟨rfl, rfl, rfl, rfl, rfl, rfl, rfl, rfl, rfl, rfl, rfl, rfl⟩ := q9
  have hP : va_P D vwCl (kv_lkw ci la ad o0 lp o1 o2 kc kh o3 fo kl kp dy mo n pa aE qp qm ql qv qc qe o4 o5 o6 o7 o8 o9 o10) H := hP
  have hD : va_D (fun q : Nat => s.heap.size ≤ q) (kv_lkw ci la ad o0 lp o1 o2 kc kh o3 fo kl kp dy mo n pa aE qp qm ql qv qc qe o4 o5 o6 o7 o8 o9 o10) := hD
  refine lv_if_ne (tgt := 300) hx hb dL_law_295 (by decide) (fun _ => ?_) (fun c9 => absurd c9 n10)
  refine lv_iinc (v := nI (t + 1)) (lv' := [(6, .int (nI (t + 1))), (9, .int 1), (7, .int z), (0, .ref b), (1, .ref (ad 0)), (2, .ref (la 0)), (3, .ref (la 1)), (4, .ref (la 2)), (5, .ref (la 3))]) hx hb dL_law_300 hl (k := 8) rfl (nI_1 t) (by decide) rfl (fun ls hl => ?_)
  refine lv_goto (tgt := 82) hx hb dL_law_303 (by decide) ?_
  exact hk _ _ o0 lp o1 o2 kc kh o3 fo kl kp dy mo n pa aE qp qm ql qv qc qe o4 o5 o6 o7 o8 o9 o10 H locs ls (by omega) (by omega) hI9 hE hP hD hS (lv_sub hl [3, 4, 5, 6, 7, 8, 0] rfl)
set_option maxHeartbeats 8000000 in
set_option maxRecDepth 100000 in
theorem law_out {p : Program} {l : Launch} {en : Env} {s : State} {m : MethodId} {below : List Frame} {meth : Method} {c : Code} {D : va_G} {ci la ad : Nat → Nat} {aS b L : Nat} {xs : Nat → Int32} (hL : L ≤ 260) (hC : law_C p l s m meth c D ci aS b L xs) {cm sm : Nat} (hcm : cm ≤ 100000) (hsm : sm ≤ 1000000) : law_K p l en s m below meth c D ci la ad aS b (nI 80) 82 cm sm := by
  intro cl sl lm lp lr lq kc kh ks fo kl kp dy mo n pa aE qp qm ql qv qc qe mt mv sw hv tk tn sc H locs ls hcl hsl hI hE hP hD hS hl
  obtain ⟨⟨hx, hb, hr, hml, hown, hts0, hX, hbl, hlocks, hgv⟩, hl9, hT, hT2, hN, hK⟩ := id hC
  have hown : s.vm.findClass RL = some m.cls := hown
  have hts := fun w h => hts0 w (wsL_law_in w h)
  have hA : ∀ q : Nat, s.heap.size ≤ q → (fun q : Nat => s.heap.size ≤ q) q := fun _ h => h
  have hbA : ¬ (fun q : Nat => s.heap.size ≤ q) b := Nat.not_le.mpr hbl
  refine lv_iload hx hb dL_law_82 (lv_at hl 6 rfl) ?_
  refine lv_bipush (v := 80) hx hb dL_law_84 (by decide) ?_
  refine lv_icmp_ge (tgt := 306) hx hb dL_law_86 (by decide) (fun _ => ?_) (fun c9 => absurd (by decide) c9)
  refine lv_iconst (v := 1) hx hb dL_law_306 (by decide) ?_
  refine va_forget (fun q hq => hS.2.2 q hq) ?_
  refine W.widen (k := 621809) (n := 7236197) (by omega) (by omega) ?_
  exact lw_ret hx hb hr hlocks dL_law_307
set_option maxHeartbeats 8000000 in
set_option maxRecDepth 100000 in
theorem law_turn {p : Program} {l : Launch} {en : Env} {s : State} {m : MethodId} {below : List Frame} {meth : Method} {c : Code} {D : va_G} {ci la ad : Nat → Nat} {aS b L : Nat} {xs : Nat → Int32} (hL : L ≤ 260) (hC : law_C p l s m meth c D ci aS b L xs) {t : Nat} (ht : t < 80) {cm sm : Nat} (hcm : cm ≤ 40000) (hsm : sm ≤ 400000) (kk : ∀ (z : Int32) (cl sl : Nat), cl ≤ cm + 20 → sl ≤ sm + 120 → law_K2 p l en s m below meth c D ci la ad aS b (nI t) z 276 cl sl) : law_K p l en s m below meth c D ci la ad aS b (nI t) 82 cm sm := by
  intro cl sl lm lp lr lq kc kh ks fo kl kp dy mo n pa aE qp qm ql qv qc qe mt mv sw hv tk tn sc H locs ls hcl hsl hI hE hP hD hS hl
  obtain ⟨⟨hx, hb, hr, hml, hown, hts0, hX, hbl, hlocks, hgv⟩, hl9, hT, hT2, hN, hK⟩ := id hC
  have hown : s.vm.findClass RL = some m.cls := hown
  have hts := fun w h => hts0 w (wsL_law_in w h)
  have hA : ∀ q : Nat, s.heap.size ≤ q → (fun q : Nat => s.heap.size ≤ q) q := fun _ h => h
  have hbA : ¬ (fun q : Nat => s.heap.size ≤ q) b := Nat.not_le.mpr hbl
  refine lv_iload hx hb dL_law_82 (lv_at hl 6 rfl) ?_
  refine lv_bipush (v := 80) hx hb dL_law_84 (by decide) ?_
  refine lv_icmp_ge (tgt := 306) hx hb dL_law_86 (by decide) (fun c9 => absurd c9 (nI_ge (b := 80) (by omega) (by decide))) (fun _ => ?_)
  refine lv_aload_n hx hb dL_law_89 rfl (lv_at hl 0 rfl) ?_
  refine lv_iload hx hb dL_law_90 (lv_at hl 6 rfl) ?_
  have hP : va_P D vwCl ([] ++ (kv_lkw ci la ad lm lp lr lq kc kh ks fo kl kp dy mo n pa aE qp qm ql qv qc qe mt mv sw hv tk tn sc)) H := hP
  have hD : va_D (fun q : Nat => s.heap.size ≤ q) ([] ++ (kv_lkw ci la ad lm lp lr lq kc kh ks fo kl kp dy mo n pa aE qp qm ql qv qc qe mt mv sw hv tk tn sc)) := hD
  refine kv_calliF (va_runS (As := [.ref b, .int (nI t)]) (rest := []) ⟨hx, hb, hml, hown, hts⟩ (c_L_cell l D ci b L xs t ht hL H.size) (va_cwS 2 hts gL_law_L_cell rfl rfl rfl (by decide +kernel) ⟨Nat.le_of_ble_eq_true rfl, Nat.le_of_ble_eq_true rfl⟩) (kv_preSB hK hX hbl hbA hS) rfl rfl hl.1 rfl (lv_room (Nat.le_of_ble_eq_true rfl)) dL_law_92 ⟨kv_room1 (by omega), kv_room2 (by omega)⟩) hP hD hS hA (fun z u H locs _ hP hD hS => ?_)
  have hP : va_P D vwCl (kv_lkw ci la ad lm lp lr lq kc kh ks fo kl kp dy mo n pa aE qp qm ql qv qc qe mt mv sw hv tk tn sc) H := hP
  have hD : va_D (fun q : Nat => s.heap.size ≤ q) (kv_lkw ci la ad lm lp lr lq kc kh ks fo kl kp dy mo n pa aE qp qm ql qv qc qe mt mv sw hv tk tn sc) := hD
  refine lv_istore (lv' := [(7, .int z), (0, .ref b), (1, .ref (ad 0)), (2, .ref (la 0)), (3, .ref (la 1)), (4, .ref (la 2)), (5, .ref (la 3)), (6, .int (nI t))]) hx hb dL_law_95 hl (by decide) rfl (fun ls hl => ?_)
  refine lv_iload hx hb dL_law_97 (lv_at hl 0 rfl) ?_
  refine lv_bipush (v := 14) hx hb dL_law_99 (by decide) ?_
  obtain ⟨a, ha, ea⟩ := u_lowL z 14 (k := 14) rfl (by decide) (by decide)
  have hP : va_P D vwCl ((kv_lw ci la lm lp lr lq) ++ (kv_kw ci ad kc kh ks fo kl kp dy mo n pa aE qp qm ql qv qc qe mt mv sw hv tk tn sc)) H := hP
  have hD : va_D (fun q : Nat => s.heap.size ≤ q) ((kv_lw ci la lm lp lr lq) ++ (kv_kw ci ad kc kh ks fo kl kp dy mo n pa aE qp qm ql qv qc qe mt mv sw hv tk tn sc)) := hD
  refine kv_calliF (va_runS (As := [.int z, .int 14]) (rest := []) ⟨hx, hb, hml, hown, hts⟩ (c_L_low l D ci la lm lp lr lq z 14 (by rw [ea]; exact Option.some_ne_none _) H.size) (va_cwS 2 hts gL_law_L_low rfl rfl rfl (by decide +kernel) ⟨Nat.le_of_ble_eq_true rfl, Nat.le_of_ble_eq_true rfl⟩) (kv_preS hK (kv_Pl hP) (kv_Dl hD)) rfl rfl hl.1 rfl (lv_room (Nat.le_of_ble_eq_true rfl)) dL_law_101 ⟨kv_room1 (by omega), kv_room2 (by omega)⟩) hP hD hS hA (fun r1 u H locs hw hP hD hS => ?_)
  obtain rfl : r1 = nI a := Option.some.inj (hw.symm.trans ea)
  have hP : va_P D vwCl (kv_lkw ci la ad lm lp lr lq kc kh ks fo kl kp dy mo n pa aE qp qm ql qv qc qe mt mv sw hv tk tn sc) H := hP
  have hD : va_D (fun q : Nat => s.heap.size ≤ q) (kv_lkw ci la ad lm lp lr lq kc kh ks fo kl kp dy mo n pa aE qp qm ql qv qc qe mt mv sw hv tk tn sc) := hD
  refine lv_istore (lv' := [(8, .int (nI a)), (7, .int z), (0, .ref b), (1, .ref (ad 0)), (2, .ref (la 0)), (3, .ref (la 1)), (4, .ref (la 2)), (5, .ref (la 3)), (6, .int (nI t))]) hx hb dL_law_104 hl (by decide) rfl (fun ls hl => ?_)
  refine lv_iconst (v := 1) hx hb dL_law_106 (by decide) ?_
  refine lv_istore (lv' := [(9, .int 1), (8, .int (nI a)), (7, .int z), (0, .ref b), (1, .ref (ad 0)), (2, .ref (la 0)), (3, .ref (la 1)), (4, .ref (la 2)), (5, .ref (la 3)), (6, .int (nI t))]) hx hb dL_law_107 hl (by decide) rfl (fun ls hl => ?_)
  refine lv_iload hx hb dL_law_109 (lv_at hl 1 rfl) ?_
  refine lv_bipush (v := 6) hx hb dL_law_111 (by decide) ?_
  refine lv_icmp_ge (tgt := 156) hx hb dL_law_113 (by decide) (fun c113 => ?_) (fun c113 => ?_)
  · refine lv_iload hx hb dL_law_156 (lv_at hl 1 rfl) ?_
    refine lv_bipush (v := 11) hx hb dL_law_158 (by decide) ?_
    refine lv_icmp_ge (tgt := 204) hx hb dL_law_160 (by decide) (fun c160 => ?_) (fun c160 => ?_)
    · refine lv_iload hx hb dL_law_204 (lv_at hl 1 rfl) ?_
      refine lv_bipush (v := 13) hx hb dL_law_206 (by decide) ?_
      refine lv_icmp_ge (tgt := 229) hx hb dL_law_208 (by decide) (fun c208 => ?_) (fun c208 => ?_)
      · exact law_days hL hC (x6 := nI t) (z := z) (x8 := nI a) (by omega) (by omega) hI hE hP hD hS (lv_sub hl [3, 4, 5, 6, 7, 8, 9, 2, 1, 0] rfl) (kk _ _ _ (by omega) (by omega))
      · refine lv_aload_n hx hb dL_law_211 rfl (lv_at hl 4 rfl) ?_
        exact law_products hL hC (x6 := nI t) (z := z) (x8 := nI a) (by omega) (by omega) hI hE hP hD hS (lv_sub hl [3, 4, 5, 6, 7, 8, 9, 2, 1, 0] rfl) (kk _ _ _ (by omega) (by omega))
    · refine lv_aload_n hx hb dL_law_163 rfl (lv_at hl 4 rfl) ?_
      refine lv_iload hx hb dL_law_164 (lv_at hl 1 rfl) ?_
      refine lv_bipush (v := 8) hx hb dL_law_166 (by decide) ?_
      refine lv_icmp_le (tgt := 175) hx hb dL_law_168 (by decide) (fun c168 => ?_) (fun c168 => ?_)
      · refine lv_iload hx hb dL_law_175 (lv_at hl 1 rfl) ?_
        refine lv_bipush (v := 8) hx hb dL_law_177 (by decide) ?_
        refine lv_icmp_ne (tgt := 186) hx hb dL_law_179 (by decide) (fun c179 => ?_) (fun c179 => ?_)
        · refine lv_iconst (v := 0) hx hb dL_law_186 (by decide) ?_
          exact law_rights hL hC (x6 := nI t) (z := z) (x8 := nI a) (a := 0) (by omega) (by omega) hI hE hP hD hS (lv_sub hl [3, 4, 5, 6, 7, 8, 9, 2, 1, 0] rfl) (kk _ _ _ (by omega) (by omega))
        · refine lv_iconst (v := 1) hx hb dL_law_182 (by decide) ?_
          refine lv_goto (tgt := 187) hx hb dL_law_183 (by decide) ?_
          exact law_rights hL hC (x6 := nI t) (z := z) (x8 := nI a) (a := 1) (by omega) (by omega) hI hE hP hD hS (lv_sub hl [3, 4, 5, 6, 7, 8, 9, 2, 1, 0] rfl) (kk _ _ _ (by omega) (by omega))
      · refine lv_iconst (v := 2) hx hb dL_law_171 (by decide) ?_
        refine lv_goto (tgt := 187) hx hb dL_law_172 (by decide) ?_
        exact law_rights hL hC (x6 := nI t) (z := z) (x8 := nI a) (a := 2) (by omega) (by omega) hI hE hP hD hS (lv_sub hl [3, 4, 5, 6, 7, 8, 9, 2, 1, 0] rfl) (kk _ _ _ (by omega) (by omega))
  · refine lv_aload_n hx hb dL_law_116 rfl (lv_at hl 4 rfl) ?_
    refine lv_iload hx hb dL_law_117 (lv_at hl 1 rfl) ?_
    refine lv_iconst (v := 3) hx hb dL_law_119 (by decide) ?_
    refine lv_icmp_le (tgt := 127) hx hb dL_law_120 (by decide) (fun c120 => ?_) (fun c120 => ?_)
    · refine lv_iload hx hb dL_law_127 (lv_at hl 1 rfl) ?_
      refine lv_iconst (v := 1) hx hb dL_law_129 (by decide) ?_
      refine lv_isub hx hb dL_law_130 ?_
      refine lv_if_ge (tgt := 138) hx hb dL_law_131 (by decide) (fun _ => ?_) (fun _ => ?_)
      · refine lv_iload hx hb dL_law_138 (lv_at hl 1 rfl) ?_
        refine lv_iconst (v := 1) hx hb dL_law_140 (by decide) ?_
        refine lv_isub hx hb dL_law_141 ?_
        exact law_machines hL hC (x6 := nI t) (z := z) (x8 := nI a) (a := nI a - 1) (by omega) (by omega) hI hE hP hD hS (lv_sub hl [3, 4, 5, 6, 7, 8, 9, 2, 1, 0] rfl) (kk _ _ _ (by omega) (by omega))
      · refine lv_iconst (v := 0) hx hb dL_law_134 (by decide) ?_
        refine lv_goto (tgt := 142) hx hb dL_law_135 (by decide) ?_
        exact law_machines hL hC (x6 := nI t) (z := z) (x8 := nI a) (a := 0) (by omega) (by omega) hI hE hP hD hS (lv_sub hl [3, 4, 5, 6, 7, 8, 9, 2, 1, 0] rfl) (kk _ _ _ (by omega) (by omega))
    · refine lv_iconst (v := 2) hx hb dL_law_123 (by decide) ?_
      refine lv_goto (tgt := 142) hx hb dL_law_124 (by decide) ?_
      exact law_machines hL hC (x6 := nI t) (z := z) (x8 := nI a) (a := 2) (by omega) (by omega) hI hE hP hD hS (lv_sub hl [3, 4, 5, 6, 7, 8, 9, 2, 1, 0] rfl) (kk _ _ _ (by omega) (by omega))
theorem law_loop {p : Program} {l : Launch} {en : Env} {s : State} {m : MethodId} {below : List Frame} {meth : Method} {c : Code} {D : va_G} {ci la ad : Nat → Nat} {aS b L : Nat} {xs : Nat → Int32} (hL : L ≤ 260) (hC : law_C p l s m meth c D ci aS b L xs) : ∀ (r t : Nat), t + r = 80 → law_K p l en s m below meth c D ci la ad aS b (nI t) 82 (100 + 40 * t) (3000 + 300 * t) := by
  intro r
  induction r with
  | zero =>
    intro t h
    obtain rfl : t = 80 := by omega
    exact law_out hL hC (by omega) (by omega)
  | succ r ih =>
    intro t h
    refine law_turn hL hC (by omega) (by omega) (by omega) (fun z cl sl h1 h2 => ?_)
    refine law_is hL hC (by omega) (by omega) ?_
    intro cl2 sl2 lm lp lr lq kc kh ks fo kl kp dy mo n pa aE qp qm ql qv qc qe mt mv sw hv tk tn sc H locs ls q1 q2
    exact ih (t + 1) (by omega) cl2 sl2 lm lp lr lq kc kh ks fo kl kp dy mo n pa aE qp qm ql qv qc qe mt mv sw hv tk tn sc H locs ls (by omega) (by omega)
theorem st_cls {s : State} {b : Nat} (hts0 : ∀ w ∈ lw_tbl, w.before #[Value.ref b] s = true) : ∃ D : va_G, ∀ (k : Nat) (q : vw_C), vwCl[k]? = some q → u_Kn s q.1 q.2.1 q.2.2 (D.1 k) (D.2 k) := by
  have hts := fun w h => hts0 w (wsL_law_in w h)
  obtain ⟨c0, i0, k0⟩ := u_known (C := RJx4a65c) (T := TJx4a65c) (N := 3) (n := 3) hts (by decide +kernel) (hts (.instantiable RJx4a65c 3) (by decide +kernel))
  obtain ⟨c1, i1, k1⟩ := u_known (C := RX0) (T := TX0) (N := 7) (n := 7) hts (by decide +kernel) (hts (.instantiable RX0 7) (by decide +kernel))
  obtain ⟨c2, i2, k2⟩ := u_known (C := RX1) (T := TX1) (N := 6) (n := 6) hts (by decide +kernel) (hts (.instantiable RX1 6) (by decide +kernel))
  obtain ⟨c3, i3, k3⟩ := u_known (C := RX2) (T := TX2) (N := 9) (n := 9) hts (by decide +kernel) (hts (.instantiable RX2 9) (by decide +kernel))
  refine ⟨(fun k => match k with | 0 => c0 | 1 => c1 | 2 => c2 | _ => c3, fun k => match k with | 0 => i0 | 1 => i1 | 2 => i2 | _ => i3), ?_⟩
  intro k q hq
  match k, hq with
  | 0, hq => cases hq; exact k0
  | 1, hq => cases hq; exact k1
  | 2, hq => cases hq; exact k2
  | 3, hq => cases hq; exact k3
  | k + 4, hq => simp [vwCl] at hq
theorem st_arr {s : State} {b : Nat} (hts0 : ∀ w ∈ lw_tbl, w.before #[Value.ref b] s = true) : ∃ ci : Nat → Nat, ∀ (k : Nat) (q : ClassId × FieldType), (kv_tys ci)[k]? = some q → ArrOfT s q.1 q.2 ∧ va_RA s q.1 q.2 := by
  obtain ⟨c0, k0, m0, a1, a2, a3⟩ := Cond.arrayClass_spec (type := .int) (hts0 (.arrayClass .int) (by decide +kernel))
  obtain ⟨m2, c2, k2, d1, d2, d3, d4, d5⟩ := Cond.arrayOver_spec (hts0 (.arrayOver (.object "java/lang/Object")) (by decide +kernel))
  obtain ⟨m3, c3, k3, e1, e2, e3, e4⟩ := Cond.arrayOver_specA (hts0 (.arrayOver (.array .int)) (by decide +kernel))
  refine ⟨fun k => match k with | 0 => c0 | 1 => c0 | 2 => c2 | _ => c3, ?_⟩
  intro k q hq
  match k, hq with
  | 0, hq => cases hq; exact ⟨fun n z => ⟨fun k h => (by cases h), k0, a2, m0, a3⟩, a1⟩
  | 1, hq => cases hq; exact ⟨fun n z => ⟨fun k h => (by cases h), k0, a2, m0, a3⟩, a1⟩
  | 2, hq => cases hq; exact ⟨fun n z => ⟨fun k h => (by cases h), k2, d3, m2, d4⟩, ⟨k2, m2, d3, d4, d1, d5⟩⟩
  | 3, hq => cases hq; exact ⟨fun n z => ⟨fun k h => (by cases h), k3, e2, m3, e3⟩, e4⟩
  | k + 4, hq => simp [kv_tys] at hq
theorem st_str {s : State} {b : Nat} {k : Nat} {tx : String} (h1 : (Cond.stringRef RX2 k tx).before #[Value.ref b] s = true) (h2 : (Cond.exactly (.string RX2 k) "java/lang/String").before #[Value.ref b] s = true) : ∃ sa, vk_R RX2 k tx sa s := by
  obtain ⟨a, c, cell, kk, e1, -⟩ := Cond.exactly_spec h2
  exact ⟨a, vk_R.of h1 e1⟩
theorem st_strs {s : State} {b : Nat} (hts0 : ∀ w ∈ lw_tbl, w.before #[Value.ref b] s = true) (hgv : (Jvm.Cond.and given_1 narrow_1).before #[Value.ref b] s = true) : ∀ q ∈ kv_strs, ∃ sa, vk_R RX2 q.1 q.2 sa s := by
  have hg := flat_of_before _ hgv
  refine List.forall_mem_cons.mpr ⟨?_, List.forall_mem_cons.mpr ⟨?_, List.forall_mem_cons.mpr ⟨?_, List.forall_mem_cons.mpr ⟨?_, List.forall_mem_cons.mpr ⟨?_, List.forall_mem_cons.mpr ⟨?_, List.forall_mem_cons.mpr ⟨?_, List.forall_mem_cons.mpr ⟨?_, List.forall_mem_cons.mpr ⟨?_, List.forall_mem_cons.mpr ⟨?_, List.forall_mem_cons.mpr ⟨?_, List.forall_mem_cons.mpr ⟨?_, fun _ h => absurd h List.not_mem_nil⟩⟩⟩⟩⟩⟩⟩⟩⟩⟩⟩⟩
  · exact st_str (hts0 (.stringRef RX2 110 "the right is of the latest version") (by decide +kernel)) (hg (.exactly (.string RX2 110) "java/lang/String") (by decide +kernel))
  · exact st_str (hts0 (.stringRef RX2 121 "less is lent out than comes back") (by decide +kernel)) (hg (.exactly (.string RX2 121) "java/lang/String") (by decide +kernel))
  · exact st_str (hts0 (.stringRef RX2 173 "there is no such machine") (by decide +kernel)) (hg (.exactly (.string RX2 173) "java/lang/String") (by decide +kernel))
  · exact st_str (hts0 (.stringRef RX2 176 "there is no such product") (by decide +kernel)) (hg (.exactly (.string RX2 176) "java/lang/String") (by decide +kernel))
  · exact st_str (hts0 (.stringRef RX2 180 "an argument is out of its range") (by decide +kernel)) (hg (.exactly (.string RX2 180) "java/lang/String") (by decide +kernel))
  · exact st_str (hts0 (.stringRef RX2 183 "the right has a lesser count") (by decide +kernel)) (hg (.exactly (.string RX2 183) "java/lang/String") (by decide +kernel))
  · exact st_str (hts0 (.stringRef RX2 185 "there are as many rights as there can be") (by decide +kernel)) (hg (.exactly (.string RX2 185) "java/lang/String") (by decide +kernel))
  · exact st_str (hts0 (.stringRef RX2 187 "a machine is not its own host") (by decide +kernel)) (hg (.exactly (.string RX2 187) "java/lang/String") (by decide +kernel))
  · exact st_str (hts0 (.stringRef RX2 193 "a host has no host") (by decide +kernel)) (hg (.exactly (.string RX2 193) "java/lang/String") (by decide +kernel))
  · exact st_str (hts0 (.stringRef RX2 195 "the product has too many rights to try all sets") (by decide +kernel)) (hg (.exactly (.string RX2 195) "java/lang/String") (by decide +kernel))
  · exact st_str (hts0 (.stringRef RX2 197 "there is no such right") (by decide +kernel)) (hg (.exactly (.string RX2 197) "java/lang/String") (by decide +kernel))
  · exact st_str (hts0 (.stringRef RX2 71 "the product has its last version") (by decide +kernel)) (hg (.exactly (.string RX2 71) "java/lang/String") (by decide +kernel))
theorem st_thr {s : State} {b : Nat} (hts0 : ∀ w ∈ lw_tbl, w.before #[Value.ref b] s = true) (hgv : (Jvm.Cond.and given_1 narrow_1).before #[Value.ref b] s = true) : kv_thr (fun q : Nat => s.heap.size ≤ q) s := by
  have hg := flat_of_before _ hgv
  have hA : ∀ a : Nat, a < s.heap.size → ¬ (fun q : Nat => s.heap.size ≤ q) a := fun a h => Nat.not_le.mpr h
  refine ⟨vx_Zqof (hts0 (.laysStatic Bundle.tN "UNASSIGNED_STACK" Bundle.steD) (by decide +kernel)) (hts0 (.initialized Bundle.tN) (by decide +kernel)) (hg (.isRef (.static Bundle.tN "UNASSIGNED_STACK" Bundle.steD)) (by decide +kernel)) hA, vx_Zqof (hts0 (.laysStatic Bundle.tN "SUPPRESSED_SENTINEL" Bundle.listD) (by decide +kernel)) (hts0 (.initialized Bundle.tN) (by decide +kernel)) (hg (.isRef (.static Bundle.tN "SUPPRESSED_SENTINEL" Bundle.listD)) (by decide +kernel)) hA, st_strs hts0 hgv, fun u => ?_, ?_⟩
  · unfold kv_ex
    split
    · exact va_Nw.of rfl (hts0 (.castable "java/lang/IndexOutOfBoundsException" "java/lang/IndexOutOfBoundsException") (by decide +kernel))
    · split
      · exact va_Nw.of rfl (hts0 (.castable "java/lang/IllegalArgumentException" "java/lang/IllegalArgumentException") (by decide +kernel))
      · exact va_Nw.of rfl (hts0 (.castable "java/lang/IllegalStateException" "java/lang/IllegalStateException") (by decide +kernel))
  · refine List.forall_mem_cons.mpr ⟨?_, List.forall_mem_cons.mpr ⟨?_, List.forall_mem_cons.mpr ⟨?_, fun _ h => absurd h List.not_mem_nil⟩⟩⟩
    · exact va_Nw.of rfl (hts0 (.declares (Bundle.initS "java/lang/RuntimeException")) (by decide +kernel))
    · exact va_Nw.of rfl (hts0 (.declares (Bundle.initS "java/lang/Exception")) (by decide +kernel))
    · exact va_Nw.of rfl (hts0 (.declares (Bundle.initS Bundle.tN)) (by decide +kernel))
theorem st_lst {s : State} {b : Nat} (hts0 : ∀ w ∈ lw_tbl, w.before #[Value.ref b] s = true) (hgv : (Jvm.Cond.and given_1 narrow_1).before #[Value.ref b] s = true) : ∃ aS : Nat, kv_lst aS (fun q : Nat => s.heap.size ≤ q) s := by
  have hg := flat_of_before _ hgv
  have hA : ∀ a : Nat, a < s.heap.size → ¬ (fun q : Nat => s.heap.size ≤ q) a := fun a h => Nat.not_le.mpr h
  obtain ⟨t, ht, hT⟩ := va_Tof (N := 0) (f := fun _ => .null) (tm := .static "java/util/ArrayList" "DEFAULTCAPACITY_EMPTY_ELEMENTDATA" "[Ljava/lang/Object;") (ty := .object "java/lang/Object") (by decide) (hg (.arrayOf (.static "java/util/ArrayList" "DEFAULTCAPACITY_EMPTY_ELEMENTDATA" "[Ljava/lang/Object;") (.object "java/lang/Object")) (by decide +kernel)) (Cond.eq_int (hg (.eq (.length (.static "java/util/ArrayList" "DEFAULTCAPACITY_EMPTY_ELEMENTDATA" "[Ljava/lang/Object;")) (.int 0)) (by decide +kernel)) rfl) (fun j hj => absurd hj (Nat.not_lt_zero j)) hA
  exact ⟨t, va_Zof (hts0 (.laysStatic "java/util/ArrayList" "DEFAULTCAPACITY_EMPTY_ELEMENTDATA" "[Ljava/lang/Object;") (by decide +kernel)) (hts0 (.initialized "java/util/ArrayList") (by decide +kernel)) ht hA, hT, va_Mi.of (hg (.isRef (.mirror "[Ljava/lang/Object;")) (by decide +kernel)), va_Dc.of (hts0 (.declares ⟨"java/lang/Object", "getClass", "()Ljava/lang/Class;"⟩) (by decide +kernel)), va_AO.of (hts0 (.arrayOver (.object "java/lang/Object")) (by decide +kernel)), va_Nw.of rfl (hts0 (.castable "LicenceKeeper$Right" "java/lang/Object") (by decide +kernel))⟩
theorem st_nc {s : State} {b : Nat} (hgv : (Jvm.Cond.and given_1 narrow_1).before #[Value.ref b] s = true) : kv_nc s := by
  have hg := flat_of_before _ hgv
  intro a c h1 h2 h3 h4 h5
  rcases (show (a = 1 ∧ c = 2) ∨ (a = 1 ∧ c = 3) ∨ (a = 2 ∧ c = 3) ∨ (a = 3 ∧ c = 2) by omega) with ⟨rfl, rfl⟩ | ⟨rfl, rfl⟩ | ⟨rfl, rfl⟩ | ⟨rfl, rfl⟩
  · exact va_Nc.of (hg (.not (.castable "java/lang/IndexOutOfBoundsException" "java/lang/IllegalArgumentException")) (by decide +kernel))
  · exact va_Nc.of (hg (.not (.castable "java/lang/IndexOutOfBoundsException" "java/lang/IllegalStateException")) (by decide +kernel))
  · exact va_Nc.of (hg (.not (.castable "java/lang/IllegalArgumentException" "java/lang/IllegalStateException")) (by decide +kernel))
  · exact va_Nc.of (hg (.not (.castable "java/lang/IllegalStateException" "java/lang/IllegalArgumentException")) (by decide +kernel))
theorem kv_preSC {s : State} {H : Heap} {locs : List Loc} {A : Nat → Prop} {D : va_G} {ci : Nat → Nat} {w0 : va_W} {aS : Nat} {As : List Value} (hK : va_K D vwCl (kv_tys ci) s) (hP : va_P D vwCl w0 H) (hD : va_D A w0) (hT : kv_lst aS A s) (hO : va_AOA .int s) (hN : va_Nw (.methodLinkNest RX2 39 yX0_init RX2) s) (hS : va_S A s.heap H locs) (hA : ∀ q, s.heap.size ≤ q → A q) : PreS s H (va_Pc As (kv_preC D ci aS w0 H.size)) As :=
  ⟨kv_preC_blind, fun U hU hW => ⟨rfl, ⟨⟨by rw [hU], by rw [hU]; exact hP, va_K.moved hW.alike hK, hD.weaken (fun _ _ _ _ => trivial)⟩, kv_lst_at hT hS (kv_free hD hS hA) hU hW⟩, va_AOA.moved hW.alike hO, va_Nw.warmM hW hN⟩⟩
theorem kv_li0 {lm lp : Nat → Int32} (h1 : ∀ i, i < 5 → lm (4 * i) = 1 ∧ lm (4 * i + 1) = -1) (h2 : ∀ i, lm (4 * i + 2) = 0 ∧ lm (4 * i + 3) = 0) (h3 : ∀ j, j < 4 → lp j = 1) : kv_li lm lp (fun _ => 0) (fun _ => 0) (kv_fill (fun _ => 0) 8 1) (kv_fill (fun _ => 0) 8 (-1)) (fun _ => (fun _ => 0)) (kv_fill (fun _ => 0) 4 1) (kv_fill (fun _ => 0) 4 1) 0 0 (fun _ => 0) (fun _ => 0) (fun _ => 0) (fun _ => 0) (fun _ => 0) (fun _ => 0) (fun _ => 0) := by
  refine ⟨⟨by decide, rfl, rfl, rfl⟩, fun i hi => ?_, fun i hi => ?_, fun i a b => ?_, fun i j hi hj => ?_, fun i j a b c => rfl, fun j hj => ?_, fun i hi => absurd hi (Nat.not_lt_zero i)⟩
  · rw [(h1 i hi).1, (h1 i hi).2]
    unfold kv_fill
    rw [if_pos (show i < 8 by omega), if_pos (show i < 8 by omega)]
    decide
  · unfold kv_fill
    rw [if_pos hi]
    decide
  · unfold kv_fill
    rw [if_pos b]
  · rcases (show j = 0 ∨ j = 1 by omega) with e | e
    · rw [e]; exact (h2 i).1
    · rw [e]; exact (h2 i).2
  · rw [h3 (2 * j) (by omega), h3 (2 * j + 1) (by omega)]
    unfold kv_fill
    rw [if_pos (show j < 4 by omega)]
    decide
set_option maxHeartbeats 8000000 in
set_option maxRecDepth 100000 in
theorem law_p {p : Program} {l : Launch} {en : Env} {s : State} {m : MethodId} {below : List Frame} {meth : Method} {c : Code} {D : va_G} {ci la ad : Nat → Nat} {aS b L : Nat} {xs : Nat → Int32} (hL : L ≤ 260) (hC : law_C p l s m meth c D ci aS b L xs) {lm : Nat → Int32} (h1 : ∀ i, i < 5 → lm (4 * i) = 1 ∧ lm (4 * i + 1) = -1) (h2 : ∀ i, lm (4 * i + 2) = 0 ∧ lm (4 * i + 3) = 0) {cl sl : Nat} (hcl : cl ≤ 100) (hsl : sl ≤ 3000) : ∀ (d i : Nat) (lp : Nat → Int32) (H : Heap) (locs : List Loc) (ls : Array Slot), i + d = 4 → (∀ j, j < i → lp j = 1) → va_P D vwCl (kv_lkw ci la ad lm lp (fun _ => 0) (fun _ => 0) (kv_fill (fun _ => 0) 8 1) (kv_fill (fun _ => 0) 8 (-1)) (fun _ => 0) (fun _ => (fun _ => 0)) (kv_fill (fun _ => 0) 4 1) (kv_fill (fun _ => 0) 4 1) 0 0 0 (fun _ => 0) aS (fun _ => 0) (fun _ => 0) (fun _ => 0) (fun _ => 0) (fun _ => 0) (fun _ => 0) (fun _ => 0) (fun _ => 0) (fun _ => 0) 0 (fun _ => 0) (fun _ => 0) (fun _ => 0)) H → va_D (fun q : Nat => s.heap.size ≤ q) (kv_lkw ci la ad lm lp (fun _ => 0) (fun _ => 0) (kv_fill (fun _ => 0) 8 1) (kv_fill (fun _ => 0) 8 (-1)) (fun _ => 0) (fun _ => (fun _ => 0)) (kv_fill (fun _ => 0) 4 1) (kv_fill (fun _ => 0) 4 1) 0 0 0 (fun _ => 0) aS (fun _ => 0) (fun _ => 0) (fun _ => 0) (fun _ => 0) (fun _ => 0) (fun _ => 0) (fun _ => 0) (fun _ => 0) (fun _ => 0) 0 (fun _ => 0) (fun _ => 0) (fun _ => 0)) → va_S (fun q : Nat => s.heap.size ≤ q) s.heap H locs → lv_has ls 10 [(0, .ref b), (1, .ref (ad 0)), (2, .ref (la 0)), (3, .ref (la 1)), (4, .ref (la 2)), (5, .ref (la 3)), (6, .int (nI i))] → W p l en room_1 s m #[Value.ref b] below meth c H locs cl sl (lw_Z below #[Value.ref b] s) (F0 m 62 ls []) := by
  obtain ⟨⟨hx, hb, hr, hml, hown, hts0, hX, hbl, hlocks, hgv⟩, hl9, hT, hT2, hN, hK⟩ := id hC
  have hown : s.vm.findClass RL = some m.cls := hown
  have hts := fun w h => hts0 w (wsL_law_in w h)
  have hA : ∀ q : Nat, s.heap.size ≤ q → (fun q : Nat => s.heap.size ≤ q) q := fun _ h => h
  have hbA : ¬ (fun q : Nat => s.heap.size ≤ q) b := Nat.not_le.mpr hbl
  intro d
  induction d with
  | zero =>
    intro i lp H locs ls hid h3 hP hD hS hl
    obtain rfl : i = 4 := by omega
    refine lv_iload hx hb dL_law_62 (lv_at hl 6 rfl) ?_
    refine lv_iconst (v := 4) hx hb dL_law_64 (by decide) ?_
    refine lv_icmp_ge (tgt := 79) hx hb dL_law_65 (by decide) (fun _ => ?_) (fun c9 => absurd (by decide) c9)
    refine lv_iconst (v := 0) hx hb dL_law_79 (by decide) ?_
    refine lv_istore (lv' := [(6, .int 0), (0, .ref b), (1, .ref (ad 0)), (2, .ref (la 0)), (3, .ref (la 1)), (4, .ref (la 2)), (5, .ref (la 3))]) hx hb dL_law_80 hl (by decide) rfl (fun ls hl => ?_)
    exact law_loop hL hC 80 0 (by omega) cl sl lm lp (fun _ => 0) (fun _ => 0) (kv_fill (fun _ => 0) 8 1) (kv_fill (fun _ => 0) 8 (-1)) (fun _ => 0) (fun _ => (fun _ => 0)) (kv_fill (fun _ => 0) 4 1) (kv_fill (fun _ => 0) 4 1) 0 0 0 (fun _ => 0) aS (fun _ => 0) (fun _ => 0) (fun _ => 0) (fun _ => 0) (fun _ => 0) (fun _ => 0) (fun _ => 0) (fun _ => 0) (fun _ => 0) 0 (fun _ => 0) (fun _ => 0) (fun _ => 0) H locs ls (by omega) (by omega) (kv_li0 h1 h2 h3) (fun _ => rfl) hP hD hS (lv_sub hl [1, 2, 3, 4, 5, 6, 0] rfl)
  | succ d ih =>
    intro i lp H locs ls hid h3 hP hD hS hl
    refine lv_iload hx hb dL_law_62 (lv_at hl 6 rfl) ?_
    refine lv_iconst (v := 4) hx hb dL_law_64 (by decide) ?_
    refine lv_icmp_ge (tgt := 79) hx hb dL_law_65 (by decide) (fun c9 => absurd c9 (nI_ge (b := 4) (by omega) (by decide))) (fun _ => ?_)
    refine lv_aload_n hx hb dL_law_68 rfl (lv_at hl 3 rfl) ?_
    refine lv_iload hx hb dL_law_69 (lv_at hl 6 rfl) ?_
    refine lv_iconst (v := 1) hx hb dL_law_71 (by decide) ?_
    refine kv_iast hx hb hK hP hD hS 1 0 (n := 4) (fun g => (kv_lkw ci la ad lm g (fun _ => 0) (fun _ => 0) (kv_fill (fun _ => 0) 8 1) (kv_fill (fun _ => 0) 8 (-1)) (fun _ => 0) (fun _ => (fun _ => 0)) (kv_fill (fun _ => 0) 4 1) (kv_fill (fun _ => 0) 4 1) 0 0 0 (fun _ => 0) aS (fun _ => 0) (fun _ => 0) (fun _ => 0) (fun _ => 0) (fun _ => 0) (fun _ => 0) (fun _ => 0) (fun _ => 0) (fun _ => 0) 0 (fun _ => 0) (fun _ => 0) (fun _ => 0))) (vp_in_nI (by omega) (by omega)) dL_law_72 rfl rfl (fun _ => rfl) (fun g H locs eg hP hD hS => ?_)
    rw [nI_clamp (by omega)] at eg
    refine lv_iinc (v := nI (i + 1)) (lv' := [(6, .int (nI (i + 1))), (0, .ref b), (1, .ref (ad 0)), (2, .ref (la 0)), (3, .ref (la 1)), (4, .ref (la 2)), (5, .ref (la 3))]) hx hb dL_law_73 hl (k := 6) rfl (nI_1 i) (by decide) rfl (fun ls hl => ?_)
    refine lv_goto (tgt := 62) hx hb dL_law_76 (by decide) ?_
    refine ih (i + 1) g H locs ls (by omega) (fun j hj => ?_) hP hD hS (lv_sub hl [1, 2, 3, 4, 5, 6, 0] rfl)
    rw [eg]
    unfold upd
    by_cases e : j = i
    · rw [if_pos e]
    · rw [if_neg e]
      exact h3 j (by omega)
set_option maxHeartbeats 8000000 in
set_option maxRecDepth 100000 in
theorem law_m {p : Program} {l : Launch} {en : Env} {s : State} {m : MethodId} {below : List Frame} {meth : Method} {c : Code} {D : va_G} {ci la ad : Nat → Nat} {aS b L : Nat} {xs : Nat → Int32} (hL : L ≤ 260) (hC : law_C p l s m meth c D ci aS b L xs) {cl sl : Nat} (hcl : cl ≤ 100) (hsl : sl ≤ 3000) : ∀ (d i : Nat) (lm : Nat → Int32) (H : Heap) (locs : List Loc) (ls : Array Slot), i + d = 5 → (∀ j, j < i → lm (4 * j) = 1 ∧ lm (4 * j + 1) = -1) → (∀ j, lm (4 * j + 2) = 0 ∧ lm (4 * j + 3) = 0) → va_P D vwCl (kv_lkw ci la ad lm (fun _ => 0) (fun _ => 0) (fun _ => 0) (kv_fill (fun _ => 0) 8 1) (kv_fill (fun _ => 0) 8 (-1)) (fun _ => 0) (fun _ => (fun _ => 0)) (kv_fill (fun _ => 0) 4 1) (kv_fill (fun _ => 0) 4 1) 0 0 0 (fun _ => 0) aS (fun _ => 0) (fun _ => 0) (fun _ => 0) (fun _ => 0) (fun _ => 0) (fun _ => 0) (fun _ => 0) (fun _ => 0) (fun _ => 0) 0 (fun _ => 0) (fun _ => 0) (fun _ => 0)) H → va_D (fun q : Nat => s.heap.size ≤ q) (kv_lkw ci la ad lm (fun _ => 0) (fun _ => 0) (fun _ => 0) (kv_fill (fun _ => 0) 8 1) (kv_fill (fun _ => 0) 8 (-1)) (fun _ => 0) (fun _ => (fun _ => 0)) (kv_fill (fun _ => 0) 4 1) (kv_fill (fun _ => 0) 4 1) 0 0 0 (fun _ => 0) aS (fun _ => 0) (fun _ => 0) (fun _ => 0) (fun _ => 0) (fun _ => 0) (fun _ => 0) (fun _ => 0) (fun _ => 0) (fun _ => 0) 0 (fun _ => 0) (fun _ => 0) (fun _ => 0)) → va_S (fun q : Nat => s.heap.size ≤ q) s.heap H locs → lv_has ls 10 [(0, .ref b), (1, .ref (ad 0)), (2, .ref (la 0)), (3, .ref (la 1)), (4, .ref (la 2)), (5, .ref (la 3)), (6, .int (nI i))] → W p l en room_1 s m #[Value.ref b] below meth c H locs cl sl (lw_Z below #[Value.ref b] s) (F0 m 31 ls []) := by
  obtain ⟨⟨hx, hb, hr, hml, hown, hts0, hX, hbl, hlocks, hgv⟩, hl9, hT, hT2, hN, hK⟩ := id hC
  have hown : s.vm.findClass RL = some m.cls := hown
  have hts := fun w h => hts0 w (wsL_law_in w h)
  have hA : ∀ q : Nat, s.heap.size ≤ q → (fun q : Nat => s.heap.size ≤ q) q := fun _ h => h
  have hbA : ¬ (fun q : Nat => s.heap.size ≤ q) b := Nat.not_le.mpr hbl
  intro d
  induction d with
  | zero =>
    intro i lm H locs ls hid h1 h2 hP hD hS hl
    obtain rfl : i = 5 := by omega
    refine lv_iload hx hb dL_law_31 (lv_at hl 6 rfl) ?_
    refine lv_iconst (v := 5) hx hb dL_law_33 (by decide) ?_
    refine lv_icmp_ge (tgt := 59) hx hb dL_law_34 (by decide) (fun _ => ?_) (fun c9 => absurd (by decide) c9)
    refine lv_iconst (v := 0) hx hb dL_law_59 (by decide) ?_
    refine lv_istore (lv' := [(6, .int 0), (0, .ref b), (1, .ref (ad 0)), (2, .ref (la 0)), (3, .ref (la 1)), (4, .ref (la 2)), (5, .ref (la 3))]) hx hb dL_law_60 hl (by decide) rfl (fun ls hl => ?_)
    exact law_p hL hC h1 h2 hcl hsl 4 0 (fun _ => 0) H locs ls (by omega) (fun j hj => absurd hj (Nat.not_lt_zero j)) hP hD hS (lv_sub hl [1, 2, 3, 4, 5, 6, 0] rfl)
  | succ d ih =>
    intro i lm H locs ls hid h1 h2 hP hD hS hl
    refine lv_iload hx hb dL_law_31 (lv_at hl 6 rfl) ?_
    refine lv_iconst (v := 5) hx hb dL_law_33 (by decide) ?_
    refine lv_icmp_ge (tgt := 59) hx hb dL_law_34 (by decide) (fun c9 => absurd c9 (nI_ge (b := 5) (by omega) (by decide))) (fun _ => ?_)
    refine lv_aload_n hx hb dL_law_37 rfl (lv_at hl 2 rfl) ?_
    refine lv_iconst (v := 4) hx hb dL_law_38 (by decide) ?_
    refine lv_iload hx hb dL_law_39 (lv_at hl 6 rfl) ?_
    refine lv_imul hx hb dL_law_41 ?_
    rw [kv_4i]
    refine lv_iconst (v := 1) hx hb dL_law_42 (by decide) ?_
    refine kv_iast hx hb hK hP hD hS 0 0 (n := 20) (fun g => (kv_lkw ci la ad g (fun _ => 0) (fun _ => 0) (fun _ => 0) (kv_fill (fun _ => 0) 8 1) (kv_fill (fun _ => 0) 8 (-1)) (fun _ => 0) (fun _ => (fun _ => 0)) (kv_fill (fun _ => 0) 4 1) (kv_fill (fun _ => 0) 4 1) 0 0 0 (fun _ => 0) aS (fun _ => 0) (fun _ => 0) (fun _ => 0) (fun _ => 0) (fun _ => 0) (fun _ => 0) (fun _ => 0) (fun _ => 0) (fun _ => 0) 0 (fun _ => 0) (fun _ => 0) (fun _ => 0))) (vp_in_nI (by omega) (by omega)) dL_law_43 rfl rfl (fun _ => rfl) (fun g H locs eg hP hD hS => ?_)
    rw [nI_clamp (by omega)] at eg
    refine lv_aload_n hx hb dL_law_44 rfl (lv_at hl 2 rfl) ?_
    refine lv_iconst (v := 4) hx hb dL_law_45 (by decide) ?_
    refine lv_iload hx hb dL_law_46 (lv_at hl 6 rfl) ?_
    refine lv_imul hx hb dL_law_48 ?_
    rw [kv_4i]
    refine lv_iconst (v := 1) hx hb dL_law_49 (by decide) ?_
    refine lv_iadd hx hb dL_law_50 ?_
    rw [kv_p1]
    refine lv_iconst (v := (-1)) hx hb dL_law_51 (by decide) ?_
    refine kv_iast hx hb hK hP hD hS 0 0 (n := 20) (fun g => (kv_lkw ci la ad g (fun _ => 0) (fun _ => 0) (fun _ => 0) (kv_fill (fun _ => 0) 8 1) (kv_fill (fun _ => 0) 8 (-1)) (fun _ => 0) (fun _ => (fun _ => 0)) (kv_fill (fun _ => 0) 4 1) (kv_fill (fun _ => 0) 4 1) 0 0 0 (fun _ => 0) aS (fun _ => 0) (fun _ => 0) (fun _ => 0) (fun _ => 0) (fun _ => 0) (fun _ => 0) (fun _ => 0) (fun _ => 0) (fun _ => 0) 0 (fun _ => 0) (fun _ => 0) (fun _ => 0))) (vp_in_nI (by omega) (by omega)) dL_law_52 rfl rfl (fun _ => rfl) (fun g2 H locs eg2 hP hD hS => ?_)
    rw [nI_clamp (by omega)] at eg2
    refine lv_iinc (v := nI (i + 1)) (lv' := [(6, .int (nI (i + 1))), (0, .ref b), (1, .ref (ad 0)), (2, .ref (la 0)), (3, .ref (la 1)), (4, .ref (la 2)), (5, .ref (la 3))]) hx hb dL_law_53 hl (k := 6) rfl (nI_1 i) (by decide) rfl (fun ls hl => ?_)
    refine lv_goto (tgt := 31) hx hb dL_law_56 (by decide) ?_
    refine ih (i + 1) g2 H locs ls (by omega) (fun j hj => ?_) (fun j => ?_) hP hD hS (lv_sub hl [1, 2, 3, 4, 5, 6, 0] rfl)
    · rw [eg2, eg]
      by_cases e : j = i
      · rw [e, kv_ups, kv_upo (by omega), kv_ups]
        exact ⟨rfl, rfl⟩
      · rw [kv_upo (by omega), kv_upo (by omega), kv_upo (by omega), kv_upo (by omega)]
        exact h1 j (by omega)
    · rw [eg2, eg, kv_upo (by omega), kv_upo (by omega), kv_upo (by omega), kv_upo (by omega)]
      exact h2 j
end KVST
