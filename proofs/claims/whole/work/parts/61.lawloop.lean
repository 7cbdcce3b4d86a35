section KVST
theorem st_cls {s : State} {b : Nat} (hts0 : ∀ w ∈ lw_tbl, w.before #[Value.ref b] s = true) : ∃ D : va_G, ∀ (k : Nat) (q : vw_C), vwCl[k]? = some q → u_Kn s q.1 q.2.1 q.2.2 (D.1 k) (D.2 k) := by
  have hts := fun w h => hts0 w (wsL_law_in w h)
  obtain ⟨c0, i0, k0⟩ := u_known (C := RJx4a65c) (T := TJx4a65c) (N := 3) (n := 3) hts (by decide +kernel) (hts (.instantiable RJx4a65c 3) (by decide +kernel))
  obtain ⟨c1, i1, k1⟩ := u_known (C := RX0) (T := TX0) (N := 7) (n := 7) hts (by decide +kernel) (hts (.instantiable RX0 7) (by decide +kernel))
  obtain ⟨c2, i2, k2⟩ := u_known (C := RX1) (T := TX1) (N := 6) (n := 6) hts (by decide +kernel) (hts (.instantiable RX1 6) (by decide +kernel))
  obtain ⟨c3, i3, k3⟩ := u_known (C := RX2) (T := TX2) (N := 9) (n := 9) hts (by decide +kernel) (hts (.instantiable RX2 9) (by decide +kernel))
  obtain ⟨c4, i4, k4⟩ := u_known (C := RX3) (T := TX3) (N := 19) (n := 19) hts (by decide +kernel) (hts (.instantiable RX3 19) (by decide +kernel))
  refine ⟨(fun k => match k with | 0 => c0 | 1 => c1 | 2 => c2 | 3 => c3 | _ => c4, fun k => match k with | 0 => i0 | 1 => i1 | 2 => i2 | 3 => i3 | _ => i4), ?_⟩
  intro k q hq
  match k, hq with
  | 0, hq => cases hq; exact k0
  | 1, hq => cases hq; exact k1
  | 2, hq => cases hq; exact k2
  | 3, hq => cases hq; exact k3
  | 4, hq => cases hq; exact k4
  | k + 5, hq => simp [vwCl] at hq
theorem st_arr {s : State} {b : Nat} (hts0 : ∀ w ∈ lw_tbl, w.before #[Value.ref b] s = true) : ∃ ci : Nat → Nat, ∀ (k : Nat) (q : ClassId × FieldType), (kv_tys ci)[k]? = some q → ArrOfT s q.1 q.2 ∧ va_RA s q.1 q.2 := by
  obtain ⟨c0, k0, m0, a1, a2, a3⟩ := Cond.arrayClass_spec (type := .int) (hts0 (.arrayClass .int) (by decide +kernel))
  obtain ⟨c1, k1, m1, b1, b2, b3⟩ := Cond.arrayClass_spec (type := .boolean) (hts0 (.arrayClass .boolean) (by decide +kernel))
  obtain ⟨m2, c2, k2, d1, d2, d3, d4, d5⟩ := Cond.arrayOver_spec (hts0 (.arrayOver (.object "java/lang/Object")) (by decide +kernel))
  obtain ⟨m3, c3, k3, e1, e2, e3, e4⟩ := Cond.arrayOver_specA (hts0 (.arrayOver (.array .int)) (by decide +kernel))
  obtain ⟨c4, k4, m4, f1, f2, f3⟩ := Cond.arrayClass_spec (type := .long) (hts0 (.arrayClass .long) (by decide +kernel))
  refine ⟨fun k => match k with | 0 => c0 | 1 => c1 | 2 => c2 | 3 => c3 | _ => c4, ?_⟩
  intro k q hq
  match k, hq with
  | 0, hq => cases hq; exact ⟨fun n z => ⟨fun k h => (by cases h), k0, a2, m0, a3⟩, a1⟩
  | 1, hq => cases hq; exact ⟨fun n z => ⟨fun k h => (by cases h), k1, b2, m1, b3⟩, b1⟩
  | 2, hq => cases hq; exact ⟨fun n z => ⟨fun k h => (by cases h), k2, d3, m2, d4⟩, ⟨k2, m2, d3, d4, d1, d5⟩⟩
  | 3, hq => cases hq; exact ⟨fun n z => ⟨fun k h => (by cases h), k3, e2, m3, e3⟩, e4⟩
  | 4, hq => cases hq; exact ⟨fun n z => ⟨fun k h => (by cases h), k4, f2, m4, f3⟩, f1⟩
  | k + 5, hq => simp [kv_tys] at hq
theorem st_str {s : State} {b : Nat} {k : Nat} {tx : String} (h1 : (Cond.stringRef RX2 k tx).before #[Value.ref b] s = true) (h2 : (Cond.exactly (.string RX2 k) "java/lang/String").before #[Value.ref b] s = true) : ∃ sa, vk_R RX2 k tx sa s := by
  obtain ⟨a, c, cell, kk, e1, -⟩ := Cond.exactly_spec h2
  exact ⟨a, vk_R.of h1 e1⟩
theorem st_strs {s : State} {b : Nat} (hts0 : ∀ w ∈ lw_tbl, w.before #[Value.ref b] s = true) (hgv : (Jvm.Cond.and given_1 narrow_1).before #[Value.ref b] s = true) : ∀ q ∈ kv_strs, ∃ sa, vk_R RX2 q.1 q.2 sa s := by
  have hg := flat_of_before _ hgv
  refine List.forall_mem_cons.mpr ⟨?_, List.forall_mem_cons.mpr ⟨?_, List.forall_mem_cons.mpr ⟨?_, List.forall_mem_cons.mpr ⟨?_, List.forall_mem_cons.mpr ⟨?_, List.forall_mem_cons.mpr ⟨?_, List.forall_mem_cons.mpr ⟨?_, List.forall_mem_cons.mpr ⟨?_, List.forall_mem_cons.mpr ⟨?_, List.forall_mem_cons.mpr ⟨?_, List.forall_mem_cons.mpr ⟨?_, List.forall_mem_cons.mpr ⟨?_, fun _ h => absurd h List.not_mem_nil⟩⟩⟩⟩⟩⟩⟩⟩⟩⟩⟩⟩
  · exact st_str (hts0 (.stringRef RX2 110 "the right is of the latest version") (by decide +kernel)) (hg (.exactly (.string RX2 110) "java/lang/String") (by decide +kernel))
  · exact st_str (hts0 (.stringRef RX2 121 "less is lent out than comes back") (by decide +kernel)) (hg (.exactly (.string RX2 121) "java/lang/String") (by decide +kernel))
  · exact st_str (hts0 (.stringRef RX2 173 "there is no such machine") (by decide +kernel)) (hg (.exactly (.string RX2 173) "java/lang/String") (by decide +kernel))
  · exact st_str (hts0 (.stringRef RX2 176 "there is no such product") (by decide +kernel)) (hg (.exactly (.string RX2 176) "java/lang/String") (by decide +kernel))
  · exact st_str (hts0 (.stringRef RX2 180 "an argument is out of its range") (by decide +kernel)) (hg (.exactly (.string RX2 180) "java/lang/String") (by decide +kernel))
  · exact st_str (hts0 (.stringRef RX2 183 "the right has a lesser count") (by decide +kernel)) (hg (.exactly (.string RX2 183) "java/lang/String") (by decide +kernel))
  · exact st_str (hts0 (.stringRef RX2 185 "there are as many rights as there can be") (by decide +kernel)) (hg (.exactly (.string RX2 185) "java/lang/String") (by decide +kernel))
  · exact st_str (hts0 (.stringRef RX2 187 "a machine is not its own host") (by decide +kernel)) (hg (.exactly (.string RX2 187) "java/lang/String") (by decide +kernel))
  · exact st_str (hts0 (.stringRef RX2 193 "a host has no host") (by decide +kernel)) (hg (.exactly (.string RX2 193) "java/lang/String") (by decide +kernel))
  · exact st_str (hts0 (.stringRef RX2 195 "the product has too many rights to try all sets") (by decide +kernel)) (hg (.exactly (.string RX2 195) "java/lang/String") (by decide +kernel))
  · exact st_str (hts0 (.stringRef RX2 197 "there is no such right") (by decide +kernel)) (hg (.exactly (.string RX2 197) "java/lang/String") (by decide +kernel))
  · exact st_str (hts0 (.stringRef RX2 71 "the product has its last version") (by decide +kernel)) (hg (.exactly (.string RX2 71) "java/lang/String") (by decide +kernel))
theorem st_thr {s : State} {b : Nat} (hts0 : ∀ w ∈ lw_tbl, w.before #[Value.ref b] s = true) (hgv : (Jvm.Cond.and given_1 narrow_1).before #[Value.ref b] s = true) : kv_thr (fun q : Nat => s.heap.size ≤ q) s := by
  have hg := flat_of_before _ hgv
  have hA : ∀ a : Nat, a < s.heap.size → ¬ (fun q : Nat => s.heap.size ≤ q) a := fun a h => Nat.not_le.mpr h
  refine ⟨vx_Zqof (hts0 (.laysStatic Bundle.tN "UNASSIGNED_STACK" Bundle.steD) (by decide +kernel)) (hts0 (.initialized Bundle.tN) (by decide +kernel)) (hg (.isRef (.static Bundle.tN "UNASSIGNED_STACK" Bundle.steD)) (by decide +kernel)) hA, vx_Zqof (hts0 (.laysStatic Bundle.tN "SUPPRESSED_SENTINEL" Bundle.listD) (by decide +kernel)) (hts0 (.initialized Bundle.tN) (by decide +kernel)) (hg (.isRef (.static Bundle.tN "SUPPRESSED_SENTINEL" Bundle.listD)) (by decide +kernel)) hA, st_strs hts0 hgv, fun u => ?_, ?_⟩
  · unfold kv_ex
    split
    · exact va_Nw.of rfl (hts0 (.castable "java/lang/IndexOutOfBoundsException" "java/lang/IndexOutOfBoundsException") (by decide +kernel))
    · split
      · exact va_Nw.of rfl (hts0 (.castable "java/lang/IllegalArgumentException" "java/lang/IllegalArgumentException") (by decide +kernel))
      · exact va_Nw.of rfl (hts0 (.castable "java/lang/IllegalStateException" "java/lang/IllegalStateException") (by decide +kernel))
  · refine List.forall_mem_cons.mpr ⟨?_, List.forall_mem_cons.mpr ⟨?_, List.forall_mem_cons.mpr ⟨?_, fun _ h => absurd h List.not_mem_nil⟩⟩⟩
    · exact va_Nw.of rfl (hts0 (.declares (Bundle.initS "java/lang/RuntimeException")) (by decide +kernel))
    · exact va_Nw.of rfl (hts0 (.declares (Bundle.initS "java/lang/Exception")) (by decide +kernel))
    · exact va_Nw.of rfl (hts0 (.declares (Bundle.initS Bundle.tN)) (by decide +kernel))
theorem st_lst {s : State} {b : Nat} (hts0 : ∀ w ∈ lw_tbl, w.before #[Value.ref b] s = true) (hgv : (Jvm.Cond.and given_1 narrow_1).before #[Value.ref b] s = true) : ∃ aS : Nat, kv_lst aS (fun q : Nat => s.heap.size ≤ q) s := by
  have hg := flat_of_before _ hgv
  have hA : ∀ a : Nat, a < s.heap.size → ¬ (fun q : Nat => s.heap.size ≤ q) a := fun a h => Nat.not_le.mpr h
  obtain ⟨t, ht, hT⟩ := va_Tof (N := 0) (f := fun _ => .null) (tm := .static "java/util/ArrayList" "DEFAULTCAPACITY_EMPTY_ELEMENTDATA" "[Ljava/lang/Object;") (ty := .object "java/lang/Object") (by decide) (hg (.arrayOf (.static "java/util/ArrayList" "DEFAULTCAPACITY_EMPTY_ELEMENTDATA" "[Ljava/lang/Object;") (.object "java/lang/Object")) (by decide +kernel)) (Cond.eq_int (hg (.eq (.length (.static "java/util/ArrayList" "DEFAULTCAPACITY_EMPTY_ELEMENTDATA" "[Ljava/lang/Object;")) (.int 0)) (by decide +kernel)) rfl) (fun j hj => absurd hj (Nat.not_lt_zero j)) hA
  exact ⟨t, va_Zof (hts0 (.laysStatic "java/util/ArrayList" "DEFAULTCAPACITY_EMPTY_ELEMENTDATA" "[Ljava/lang/Object;") (by decide +kernel)) (hts0 (.initialized "java/util/ArrayList") (by decide +kernel)) ht hA, hT, va_Mi.of (hg (.isRef (.mirror "[Ljava/lang/Object;")) (by decide +kernel)), va_Dc.of (hts0 (.declares ⟨"java/lang/Object", "getClass", "()Ljava/lang/Class;"⟩) (by decide +kernel)), va_AO.of (hts0 (.arrayOver (.object "java/lang/Object")) (by decide +kernel)), va_Nw.of rfl (hts0 (.castable "LicenceKeeper$Right" "java/lang/Object") (by decide +kernel))⟩
theorem st_nc {s : State} {b : Nat} (hgv : (Jvm.Cond.and given_1 narrow_1).before #[Value.ref b] s = true) : kv_nc s := by
  have hg := flat_of_before _ hgv
  intro a c h1 h2 h3 h4 h5
  rcases (show (a = 1 ∧ c = 2) ∨ (a = 1 ∧ c = 3) ∨ (a = 2 ∧ c = 1) ∨ (a = 2 ∧ c = 3) ∨ (a = 3 ∧ c = 1) ∨ (a = 3 ∧ c = 2) by omega) with ⟨rfl, rfl⟩ | ⟨rfl, rfl⟩ | ⟨rfl, rfl⟩ | ⟨rfl, rfl⟩ | ⟨rfl, rfl⟩ | ⟨rfl, rfl⟩
  · exact va_Nc.of (hg (.not (.castable "java/lang/IndexOutOfBoundsException" "java/lang/IllegalArgumentException")) (by decide +kernel))
  · exact va_Nc.of (hg (.not (.castable "java/lang/IndexOutOfBoundsException" "java/lang/IllegalStateException")) (by decide +kernel))
  · exact va_Nc.of (hg (.not (.castable "java/lang/IllegalArgumentException" "java/lang/IndexOutOfBoundsException")) (by decide +kernel))
  · exact va_Nc.of (hg (.not (.castable "java/lang/IllegalArgumentException" "java/lang/IllegalStateException")) (by decide +kernel))
  · exact va_Nc.of (hg (.not (.castable "java/lang/IllegalStateException" "java/lang/IndexOutOfBoundsException")) (by decide +kernel))
  · exact va_Nc.of (hg (.not (.castable "java/lang/IllegalStateException" "java/lang/IllegalArgumentException")) (by decide +kernel))
theorem kv_preSC {s : State} {H : Heap} {locs : List Loc} {A : Nat → Prop} {D : va_G} {ci : Nat → Nat} {w0 : va_W} {aS : Nat} {As : List Value} (hK : va_K D vwCl (kv_tys ci) s) (hP : va_P D vwCl w0 H) (hD : va_D A w0) (hT : kv_lst aS A s) (hO : va_AOA .int s) (hN : va_Nw (.methodLinkNest RX2 39 yX0_init RX2) s) (hS : va_S A s.heap H locs) (hA : ∀ q, s.heap.size ≤ q → A q) : PreS s H (va_Pc As (kv_preC D ci aS w0 H.size)) As :=
  ⟨kv_preC_blind, fun U hU hW => ⟨rfl, ⟨⟨by rw [hU], by rw [hU]; exact hP, va_K.moved hW.alike hK, hD.weaken (fun _ _ _ _ => trivial)⟩, kv_lst_at hT hS (kv_free hD hS hA) hU hW⟩, va_AOA.moved hW.alike hO, va_Nw.warmM hW hN⟩⟩
theorem kv_cls4 {s : State} {D : va_G} {ci : Nat → Nat} {cA : ClassId} (hK : va_K D vwCl (kv_tys ci ++ [(cA, .long)]) s) : cA = ci 4 := Option.some.inj ((hK.2 5 _ rfl).2.symm.trans (hK.2 4 _ rfl).2)
theorem kv_exit2 {a L : Nat} (ha : a ≤ 3000) (hL : L ≤ 2560) : nI L - 5 < nI a ↔ L < a + 5 := by
  rw [Int32.lt_iff_toInt_lt, show (5 : Int32) = nI 5 from rfl, pk_sub_toInt (by omega) (by decide), nI_toInt (by omega)]
  omega
theorem law_K_weak {p : Program} {l : Launch} {en : Env} {s : State} {m : MethodId} {below : List Frame} {meth : Method} {c : Code} {D : va_G} {ci ad md : Nat → Nat} {aS aO b : Nat} {x4 : Int32} {pc cm sm cm' sm' : Nat} (h : law_K p l en s m below meth c D ci ad md aS aO b x4 pc cm sm) (h1 : cm' ≤ cm) (h2 : sm' ≤ sm) : law_K p l en s m below meth c D ci ad md aS aO b x4 pc cm' sm' := by
  intro cl sl kc kh ks fo kl kp dy mo n pa aE qp qm ql qv qc qe mt mv sw hv tk tn sc th nw co ho ve la pr rg rp rm rc re ro rl mcn mtn mtk msp ba g H locs ls hcl hsl
  exact h cl sl kc kh ks fo kl kp dy mo n pa aE qp qm ql qv qc qe mt mv sw hv tk tn sc th nw co ho ve la pr rg rp rm rc re ro rl mcn mtn mtk msp ba g H locs ls (Nat.le_trans hcl h1) (Nat.le_trans hsl h2)
set_option maxHeartbeats 4000000 in
set_option maxRecDepth 100000 in
theorem law_out {p : Program} {l : Launch} {en : Env} {s : State} {m : MethodId} {below : List Frame} {meth : Method} {c : Code} {D : va_G} {ci ad md : Nat → Nat} {aS aO b L : Nat} {xs : Nat → Int32} (hL : L ≤ 2560) (hC : law_C p l s m meth c D ci aS b L xs) {a : Nat} (h1 : L < a + 5) (h2 : a ≤ L + 4) : law_K p l en s m below meth c D ci ad md aS aO b (nI a) 23 (100 + 2 * a) (3000 + 12 * a) := by
  intro cl sl kc kh ks fo kl kp dy mo n pa aE qp qm ql qv qc qe mt mv sw hv tk tn sc th nw co ho ve la pr rg rp rm rc re ro rl mcn mtn mtk msp ba g H locs ls hcl hsl hI hE hP hD hS hl
  obtain ⟨⟨hx, hb, hr, hml, hown, hts0, hX, hbl, hlocks, hgv⟩, hl9, hT, hT2, hN, hK⟩ := id hC
  have hown : s.vm.findClass RL = some m.cls := hown
  have hts := fun w h => hts0 w (wsL_law_in w h)
  have hA : ∀ q : Nat, s.heap.size ≤ q → (fun q : Nat => s.heap.size ≤ q) q := fun _ h => h
  have hbA : ¬ (fun q : Nat => s.heap.size ≤ q) b := Nat.not_le.mpr hbl
  refine lv_iload hx hb dL_law_23 (lv_at hl 4 rfl) ?_
  refine lv_aload_n hx hb dL_law_25 rfl (lv_at hl 0 rfl) ?_
  refine va_slen hx hb hX hbl hbA hS dL_law_26 ?_
  refine lv_iconst (v := 5) hx hb dL_law_27 (by decide) ?_
  refine lv_isub hx hb dL_law_28 ?_
  refine lv_icmp_gt (tgt := 1460) hx hb dL_law_29 (by decide) (fun _ => ?_) (fun c9 => absurd ((kv_exit2 (by omega) hL).mpr h1) c9)
  refine lv_iconst (v := 1) hx hb dL_law_1460 (by decide) ?_
  refine va_forget (fun q hq => hS.2.2 q hq) ?_
  refine W.widen (k := 601024) (n := 7293034) (by omega) (by omega) ?_
  exact lw_ret hx hb hr hlocks dL_law_1461
set_option maxHeartbeats 4000000 in
set_option maxRecDepth 100000 in
theorem law_back {p : Program} {l : Launch} {en : Env} {s : State} {m : MethodId} {below : List Frame} {meth : Method} {c : Code} {D : va_G} {ci ad md : Nat → Nat} {aS aO b L : Nat} {xs : Nat → Int32} (hL : L ≤ 2560) (hC : law_C p l s m meth c D ci aS b L xs) {a cm sm : Nat} (hk : law_K p l en s m below meth c D ci ad md aS aO b (nI (a + 5)) 23 cm sm) : law_K p l en s m below meth c D ci ad md aS aO b (nI a) 1454 cm sm := by
  intro cl sl kc kh ks fo kl kp dy mo n pa aE qp qm ql qv qc qe mt mv sw hv tk tn sc th nw co ho ve la pr rg rp rm rc re ro rl mcn mtn mtk msp ba g H locs ls hcl hsl hI hE hP hD hS hl
  obtain ⟨⟨hx, hb, hr, hml, hown, hts0, hX, hbl, hlocks, hgv⟩, hl9, hT, hT2, hN, hK⟩ := id hC
  have hown : s.vm.findClass RL = some m.cls := hown
  have hts := fun w h => hts0 w (wsL_law_in w h)
  have hA : ∀ q : Nat, s.heap.size ≤ q → (fun q : Nat => s.heap.size ≤ q) q := fun _ h => h
  have hbA : ¬ (fun q : Nat => s.heap.size ≤ q) b := Nat.not_le.mpr hbl
  refine lv_iinc (v := nI (a + 5)) (lv' := [(4, .int (nI (a + 5))), (0, .ref b), (1, .ref (ad 0)), (2, .ref (md 0)), (3, .ref aO)]) hx hb dL_law_1454 hl (k := 4) rfl (by rw [show Int32.ofInt 5 = nI 5 from rfl, nI_add]) (by decide) rfl (fun ls hl => ?_)
  refine lv_goto (tgt := 23) hx hb dL_law_1457 (by decide) ?_
  exact hk cl sl kc kh ks fo kl kp dy mo n pa aE qp qm ql qv qc qe mt mv sw hv tk tn sc th nw co ho ve la pr rg rp rm rc re ro rl mcn mtn mtk msp ba g H locs ls hcl hsl hI hE hP hD hS (lv_sub hl [1, 2, 3, 4, 0] rfl)
set_option maxHeartbeats 4000000 in
set_option maxRecDepth 100000 in
theorem law_in {p : Program} {l : Launch} {en : Env} {s : State} {m : MethodId} {below : List Frame} {meth : Method} {c : Code} {D : va_G} {ci ad md : Nat → Nat} {aS aO b L : Nat} {xs : Nat → Int32} (hL : L ≤ 2560) (hC : law_C p l s m meth c D ci aS b L xs) {a : Nat} (h3 : a + 5 ≤ L) (kk : ∀ cm sm, cm ≤ 100 + 2 * (a + 5) → sm ≤ 3000 + 12 * (a + 5) → law_K p l en s m below meth c D ci ad md aS aO b (nI a) 1454 cm sm) : law_K p l en s m below meth c D ci ad md aS aO b (nI a) 23 (100 + 2 * a) (3000 + 12 * a) := by
  intro cl sl kc kh ks fo kl kp dy mo n pa aE qp qm ql qv qc qe mt mv sw hv tk tn sc th nw co ho ve la pr rg rp rm rc re ro rl mcn mtn mtk msp ba g H locs ls hcl hsl hI hE hP hD hS hl
  obtain ⟨⟨hx, hb, hr, hml, hown, hts0, hX, hbl, hlocks, hgv⟩, hl9, hT, hT2, hN, hK⟩ := id hC
  have hown : s.vm.findClass RL = some m.cls := hown
  have hts := fun w h => hts0 w (wsL_law_in w h)
  have hA : ∀ q : Nat, s.heap.size ≤ q → (fun q : Nat => s.heap.size ≤ q) q := fun _ h => h
  have hbA : ¬ (fun q : Nat => s.heap.size ≤ q) b := Nat.not_le.mpr hbl
  refine lv_iload hx hb dL_law_23 (lv_at hl 4 rfl) ?_
  refine lv_aload_n hx hb dL_law_25 rfl (lv_at hl 0 rfl) ?_
  refine va_slen hx hb hX hbl hbA hS dL_law_26 ?_
  refine lv_iconst (v := 5) hx hb dL_law_27 (by decide) ?_
  refine lv_isub hx hb dL_law_28 ?_
  refine lv_icmp_gt (tgt := 1460) hx hb dL_law_29 (by decide) (fun c9 => absurd ((kv_exit2 (by omega) hL).mp c9) (by omega)) (fun _ => ?_)
  refine lv_aload_n hx hb dL_law_32 rfl (lv_at hl 0 rfl) ?_
  refine lv_iload hx hb dL_law_33 (lv_at hl 4 rfl) ?_
  refine va_sld hx hb hX hbl hbA hS (kv_ix0 (by omega) hL) dL_law_35 ?_
  refine lv_bipush (v := 31) hx hb dL_law_36 (by decide) ?_
  refine lv_iand hx hb dL_law_38 ?_
  obtain ⟨j, hj, e9⟩ := pk_andE (xs (nI a).toNatClampNeg) (m := 31) 5 (by decide)
  rw [e9]
  by_cases hj0 : j = 0
  · subst hj0
    refine lv_tableIn (off := 101) (tgt := 140) hx hb dL_law_39 (by decide) (by decide) (by decide +kernel) (by decide) ?_
    exact law_c_setCores hL hC h3 (by omega) (by omega) kc kh ks fo kl kp dy mo n pa aE qp qm ql qv qc qe mt mv sw hv tk tn sc th nw co ho ve la pr rg rp rm rc re ro rl mcn mtn mtk msp ba g hI hE hP hD hS hl (kk (cl + 10) (sl + 60) (by omega) (by omega))
  by_cases hj1 : j = 1
  · subst hj1
    refine lv_tableIn (off := 169) (tgt := 208) hx hb dL_law_39 (by decide) (by decide) (by decide +kernel) (by decide) ?_
    exact law_c_move hL hC h3 (by omega) (by omega) kc kh ks fo kl kp dy mo n pa aE qp qm ql qv qc qe mt mv sw hv tk tn sc th nw co ho ve la pr rg rp rm rc re ro rl mcn mtn mtk msp ba g hI hE hP hD hS hl (kk (cl + 10) (sl + 60) (by omega) (by omega))
  by_cases hj2 : j = 2
  · subst hj2
    refine lv_tableIn (off := 237) (tgt := 276) hx hb dL_law_39 (by decide) (by decide) (by decide +kernel) (by decide) ?_
    exact law_c_find hL hC h3 (by omega) (by omega) kc kh ks fo kl kp dy mo n pa aE qp qm ql qv qc qe mt mv sw hv tk tn sc th nw co ho ve la pr rg rp rm rc re ro rl mcn mtn mtk msp ba g hI hE hP hD hS hl (kk (cl + 10) (sl + 60) (by omega) (by omega))
  by_cases hj3 : j = 3
  · subst hj3
    refine lv_tableIn (off := 317) (tgt := 356) hx hb dL_law_39 (by decide) (by decide) (by decide +kernel) (by decide) ?_
    exact law_c_setPrice hL hC h3 (by omega) (by omega) kc kh ks fo kl kp dy mo n pa aE qp qm ql qv qc qe mt mv sw hv tk tn sc th nw co ho ve la pr rg rp rm rc re ro rl mcn mtn mtk msp ba g hI hE hP hD hS hl (kk (cl + 10) (sl + 60) (by omega) (by omega))
  by_cases hj4 : j = 4
  · subst hj4
    refine lv_tableIn (off := 385) (tgt := 424) hx hb dL_law_39 (by decide) (by decide) (by decide +kernel) (by decide) ?_
    exact law_c_release hL hC h3 (by omega) (by omega) kc kh ks fo kl kp dy mo n pa aE qp qm ql qv qc qe mt mv sw hv tk tn sc th nw co ho ve la pr rg rp rm rc re ro rl mcn mtn mtk msp ba g hI hE hP hD hS hl (kk (cl + 10) (sl + 60) (by omega) (by omega))
  by_cases hj5 : j = 5
  · subst hj5
    refine lv_tableIn (off := 441) (tgt := 480) hx hb dL_law_39 (by decide) (by decide) (by decide +kernel) (by decide) ?_
    exact law_c_buy hL hC h3 (by omega) (by omega) kc kh ks fo kl kp dy mo n pa aE qp qm ql qv qc qe mt mv sw hv tk tn sc th nw co ho ve la pr rg rp rm rc re ro rl mcn mtn mtk msp ba g hI hE hP hD hS hl (kk (cl + 10) (sl + 60) (by omega) (by omega))
  by_cases hj6 : j = 6
  · subst hj6
    refine lv_tableIn (off := 533) (tgt := 572) hx hb dL_law_39 (by decide) (by decide) (by decide +kernel) (by decide) ?_
    exact law_c_upgrade hL hC h3 (by omega) (by omega) kc kh ks fo kl kp dy mo n pa aE qp qm ql qv qc qe mt mv sw hv tk tn sc th nw co ho ve la pr rg rp rm rc re ro rl mcn mtn mtk msp ba g hI hE hP hD hS hl (kk (cl + 10) (sl + 60) (by omega) (by omega))
  by_cases hj7 : j = 7
  · subst hj7
    refine lv_tableIn (off := 601) (tgt := 640) hx hb dL_law_39 (by decide) (by decide) (by decide +kernel) (by decide) ?_
    exact law_c_lend hL hC h3 (by omega) (by omega) kc kh ks fo kl kp dy mo n pa aE qp qm ql qv qc qe mt mv sw hv tk tn sc th nw co ho ve la pr rg rp rm rc re ro rl mcn mtn mtk msp ba g hI hE hP hD hS hl (kk (cl + 10) (sl + 60) (by omega) (by omega))
  by_cases hj8 : j = 8
  · subst hj8
    refine lv_tableIn (off := 669) (tgt := 708) hx hb dL_law_39 (by decide) (by decide) (by decide +kernel) (by decide) ?_
    exact law_c_pass hL hC h3 (by omega) (by omega) kc kh ks fo kl kp dy mo n pa aE qp qm ql qv qc qe mt mv sw hv tk tn sc th nw co ho ve la pr rg rp rm rc re ro rl mcn mtn mtk msp ba g hI hE hP hD hS hl (kk (cl + 10) (sl + 60) (by omega) (by omega))
  by_cases hj9 : j = 9
  · subst hj9
    refine lv_tableIn (off := 725) (tgt := 764) hx hb dL_law_39 (by decide) (by decide) (by decide +kernel) (by decide) ?_
    exact law_c_today hL hC h3 (by omega) (by omega) kc kh ks fo kl kp dy mo n pa aE qp qm ql qv qc qe mt mv sw hv tk tn sc th nw co ho ve la pr rg rp rm rc re ro rl mcn mtn mtk msp ba g hI hE hP hD hS hl (kk (cl + 10) (sl + 60) (by omega) (by omega))
  by_cases hj10 : j = 10
  · subst hj10
    refine lv_tableIn (off := 738) (tgt := 777) hx hb dL_law_39 (by decide) (by decide) (by decide +kernel) (by decide) ?_
    exact law_c_rights hL hC h3 (by omega) (by omega) kc kh ks fo kl kp dy mo n pa aE qp qm ql qv qc qe mt mv sw hv tk tn sc th nw co ho ve la pr rg rp rm rc re ro rl mcn mtn mtk msp ba g hI hE hP hD hS hl (kk (cl + 10) (sl + 60) (by omega) (by omega))
  by_cases hj11 : j = 11
  · subst hj11
    refine lv_tableIn (off := 751) (tgt := 790) hx hb dL_law_39 (by decide) (by decide) (by decide +kernel) (by decide) ?_
    exact law_c_countOf hL hC h3 (by omega) (by omega) kc kh ks fo kl kp dy mo n pa aE qp qm ql qv qc qe mt mv sw hv tk tn sc th nw co ho ve la pr rg rp rm rc re ro rl mcn mtn mtk msp ba g hI hE hP hD hS hl (kk (cl + 10) (sl + 60) (by omega) (by omega))
  by_cases hj12 : j = 12
  · subst hj12
    refine lv_tableIn (off := 807) (tgt := 846) hx hb dL_law_39 (by decide) (by decide) (by decide +kernel) (by decide) ?_
    exact law_c_versionOf hL hC h3 (by omega) (by omega) kc kh ks fo kl kp dy mo n pa aE qp qm ql qv qc qe mt mv sw hv tk tn sc th nw co ho ve la pr rg rp rm rc re ro rl mcn mtn mtk msp ba g hI hE hP hD hS hl (kk (cl + 10) (sl + 60) (by omega) (by omega))
  by_cases hj13 : j = 13
  · subst hj13
    refine lv_tableIn (off := 863) (tgt := 902) hx hb dL_law_39 (by decide) (by decide) (by decide +kernel) (by decide) ?_
    exact law_c_latest hL hC h3 (by omega) (by omega) kc kh ks fo kl kp dy mo n pa aE qp qm ql qv qc qe mt mv sw hv tk tn sc th nw co ho ve la pr rg rp rm rc re ro rl mcn mtn mtk msp ba g hI hE hP hD hS hl (kk (cl + 10) (sl + 60) (by omega) (by omega))
  by_cases hj14 : j = 14
  · subst hj14
    refine lv_tableIn (off := 919) (tgt := 958) hx hb dL_law_39 (by decide) (by decide) (by decide +kernel) (by decide) ?_
    exact law_c_hostOf hL hC h3 (by omega) (by omega) kc kh ks fo kl kp dy mo n pa aE qp qm ql qv qc qe mt mv sw hv tk tn sc th nw co ho ve la pr rg rp rm rc re ro rl mcn mtn mtk msp ba g hI hE hP hD hS hl (kk (cl + 10) (sl + 60) (by omega) (by omega))
  by_cases hj15 : j = 15
  · subst hj15
    refine lv_tableIn (off := 975) (tgt := 1014) hx hb dL_law_39 (by decide) (by decide) (by decide +kernel) (by decide) ?_
    exact law_c_weight hL hC h3 (by omega) (by omega) kc kh ks fo kl kp dy mo n pa aE qp qm ql qv qc qe mt mv sw hv tk tn sc th nw co ho ve la pr rg rp rm rc re ro rl mcn mtn mtk msp ba g hI hE hP hD hS hl (kk (cl + 10) (sl + 60) (by omega) (by omega))
  by_cases hj16 : j = 16
  · subst hj16
    refine lv_tableIn (off := 1043) (tgt := 1082) hx hb dL_law_39 (by decide) (by decide) (by decide +kernel) (by decide) ?_
    exact law_c_covers hL hC h3 (by omega) (by omega) kc kh ks fo kl kp dy mo n pa aE qp qm ql qv qc qe mt mv sw hv tk tn sc th nw co ho ve la pr rg rp rm rc re ro rl mcn mtn mtk msp ba g hI hE hP hD hS hl (kk (cl + 10) (sl + 60) (by omega) (by omega))
  by_cases hj17 : j = 17
  · subst hj17
    refine lv_tableIn (off := 1111) (tgt := 1150) hx hb dL_law_39 (by decide) (by decide) (by decide +kernel) (by decide) ?_
    exact law_c_gap hL hC h3 (by omega) (by omega) kc kh ks fo kl kp dy mo n pa aE qp qm ql qv qc qe mt mv sw hv tk tn sc th nw co ho ve la pr rg rp rm rc re ro rl mcn mtn mtk msp ba g hI hE hP hD hS hl (kk (cl + 10) (sl + 60) (by omega) (by omega))
  by_cases hj18 : j = 18
  · subst hj18
    refine lv_tableIn (off := 1167) (tgt := 1206) hx hb dL_law_39 (by decide) (by decide) (by decide +kernel) (by decide) ?_
    exact law_c_uncovered hL hC h3 (by omega) (by omega) kc kh ks fo kl kp dy mo n pa aE qp qm ql qv qc qe mt mv sw hv tk tn sc th nw co ho ve la pr rg rp rm rc re ro rl mcn mtn mtk msp ba g hI hE hP hD hS hl (kk (cl + 10) (sl + 60) (by omega) (by omega))
  by_cases hj19 : j = 19
  · subst hj19
    refine lv_tableIn (off := 1223) (tgt := 1262) hx hb dL_law_39 (by decide) (by decide) (by decide +kernel) (by decide) ?_
    exact law_c_gapByAll hL hC h3 (by omega) (by omega) kc kh ks fo kl kp dy mo n pa aE qp qm ql qv qc qe mt mv sw hv tk tn sc th nw co ho ve la pr rg rp rm rc re ro rl mcn mtn mtk msp ba g hI hE hP hD hS hl (kk (cl + 10) (sl + 60) (by omega) (by omega))
  by_cases hj20 : j = 20
  · subst hj20
    refine lv_tableIn (off := 1279) (tgt := 1318) hx hb dL_law_39 (by decide) (by decide) (by decide +kernel) (by decide) ?_
    exact law_c_gapIf hL hC h3 (by omega) (by omega) kc kh ks fo kl kp dy mo n pa aE qp qm ql qv qc qe mt mv sw hv tk tn sc th nw co ho ve la pr rg rp rm rc re ro rl mcn mtn mtk msp ba g hI hE hP hD hS hl (kk (cl + 10) (sl + 60) (by omega) (by omega))
  by_cases hj21 : j = 21
  · subst hj21
    refine lv_tableIn (off := 1359) (tgt := 1398) hx hb dL_law_39 (by decide) (by decide) (by decide +kernel) (by decide) ?_
    exact law_c_spare hL hC h3 (by omega) (by omega) kc kh ks fo kl kp dy mo n pa aE qp qm ql qv qc qe mt mv sw hv tk tn sc th nw co ho ve la pr rg rp rm rc re ro rl mcn mtn mtk msp ba g hI hE hP hD hS hl (kk (cl + 10) (sl + 60) (by omega) (by omega))
  refine lv_tableOut (tgt := 1454) hx hb dL_law_39 (Or.inr (by rw [nI_toInt (by omega)]; omega)) (by decide) ?_
  exact kk (cl + 10) (sl + 60) (by omega) (by omega) cl sl kc kh ks fo kl kp dy mo n pa aE qp qm ql qv qc qe mt mv sw hv tk tn sc th nw co ho ve la pr rg rp rm rc re ro rl mcn mtn mtk msp ba g H locs ls (by omega) (by omega) hI hE hP hD hS hl
set_option maxHeartbeats 4000000 in
set_option maxRecDepth 100000 in
theorem law_loop {p : Program} {l : Launch} {en : Env} {s : State} {m : MethodId} {below : List Frame} {meth : Method} {c : Code} {D : va_G} {ci ad md : Nat → Nat} {aS aO b L : Nat} {xs : Nat → Int32} (hL : L ≤ 2560) (hC : law_C p l s m meth c D ci aS b L xs) : ∀ (r a : Nat), L ≤ a + 5 * r → a ≤ L + 4 → law_K p l en s m below meth c D ci ad md aS aO b (nI a) 23 (100 + 2 * a) (3000 + 12 * a) := by
  intro r
  induction r with
  | zero => exact fun a h1 h2 => law_out hL hC (by omega) h2
  | succ r ih =>
    intro a h1 h2
    by_cases h3 : a + 5 ≤ L
    · exact law_in hL hC h3 (fun cm sm q1 q2 => law_K_weak (law_back hL hC (ih (a + 5) (by omega) (by omega))) q1 q2)
    · exact law_out hL hC (by omega) h2
theorem kv_inv0 : (kv_inv (kv_fill (fun _ => 0) 8 1) (kv_fill (fun _ => 0) 8 (-1)) (fun _ => (fun _ => 0)) (kv_fill (fun _ => 0) 4 1) (kv_fill (fun _ => 0) 4 1) 0 0 (fun _ => 0) (fun _ => 0) (fun _ => 0) (fun _ => 0) (fun _ => 0) (fun _ => 0) (fun _ => 0) 0 (kv_fill (fun _ => 0) 8 1) (kv_fill (fun _ => 0) 8 (-1)) (fun _ => 0) (kv_fill (fun _ => 0) 4 1) (kv_fill (fun _ => 0) 4 1) 0 (fun _ => 0) (fun _ => 0) (fun _ => 0) (fun _ => 0) (fun _ => 0) (fun _ => 0) (fun _ => 0) (fun _ => 0)) := by
  refine ⟨⟨by decide, by decide, rfl, rfl, rfl, rfl⟩, ?_, ?_, ?_, ?_, ?_⟩
  · intro i h
    unfold kv_fill
    rw [if_pos h, if_pos h]
    decide
  · intro i j h1 h2
    exact ⟨rfl, Int32.le_refl _⟩
  · intro j h
    unfold kv_fill
    rw [if_pos h]
    decide
  · intro i h
    exact absurd h (Nat.not_lt_zero i)
  · intro i h1 h2
    rfl
end KVST

