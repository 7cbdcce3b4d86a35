section KVC60
def kv_preB (D : va_G) (ci : Nat → Nat) (b L : Nat) (xs : Nat → Int32) (sz : Nat) (U : State) : Prop := kv_pre D ci [] sz U ∧ va_X b L xs U U.heap ∧ b < sz
theorem kv_preB_blind {D : va_G} {ci : Nat → Nat} {b L : Nat} {xs : Nat → Int32} {sz : Nat} {av : List Value} : FrameBlind (va_Pc av (kv_preB D ci b L xs sz)) := fun a U g mk q => ⟨q.1, (kv_pre_blind a U g mk ⟨q.1, q.2.1⟩).2, va_X.moved (u := U) (U := U.calling g mk a) (Vm.Alike.refl U.vm) q.2.2.1, q.2.2.2⟩
theorem kv_nilP {D : va_G} {cl : List vw_C} {H : Heap} : va_P D cl [] H := fun k q h => by simp at h
theorem kv_nilD {A : Nat → Prop} : va_D A [] := ⟨fun i j p q h => by simp at h, fun k q h => by simp at h⟩
theorem kv_preSB {s : State} {H : Heap} {locs : List Loc} {A : Nat → Prop} {D : va_G} {ci : Nat → Nat} {b L : Nat} {xs : Nat → Int32} {As : List Value} (hK : va_K D vwCl (kv_tys ci) s) (hX : va_X b L xs s s.heap) (hbl : b < s.heap.size) (hbA : ¬ A b) (hS : va_S A s.heap H locs) : PreS s H (va_Pc As (kv_preB D ci b L xs H.size)) As :=
  ⟨kv_preB_blind, fun U hU hW => ⟨rfl, ⟨by rw [hU], kv_nilP, va_K.moved hW.alike hK, kv_nilD⟩, by rw [hU]; exact va_X.moved hW.alike (va_X.kept hX (hS.2.1 b hbl hbA)), Nat.lt_of_lt_of_le hbl hS.1⟩⟩
set_option maxHeartbeats 4000000 in
set_option maxRecDepth 100000 in
theorem c_L_cell (l : Launch) (D : va_G) (ci : Nat → Nat) (b L : Nat) (xs : Nat → Int32) (t : Nat) (ht80 : t < 80) (hL : L ≤ 260) (sz : Nat) : Met l yL_cell wsL_cell ({ frames := 0, cells := 0, slots := 0, locals := 0 } : Room) (va_Pc [.ref b, .int (nI t)] (kv_preB D ci b L xs sz)) (va_Qi (fun (_ : Int32) (_ : Unit) => True) (fun u t => kv_post D [] sz [] t) (va_A [] sz)) 0 0 (va_A [] sz) := by
  refine Met.ofW (cc := cL_cell) (maxL := 2) (ret := (some .int)) (by decide) rfl ?_
  intro p en s m args below meth c s₁ B hml hv
  obtain ⟨hv0, ⟨hsz, -, hK, -⟩, hX, hbl⟩ := hv
  have hx := B.exec
  have hb := B.bytes
  have hr := B.returns
  have hts := atoms_spec (ws := wsL_cell) B.pre
  have hown : s.vm.findClass RL = some m.cls := findClass_of_methodNamed B.named
  have hlocks := B.notSynchronized
  subst hsz
  have hbA : ¬ va_A [] s.heap.size b := fun q => by
    rcases q with ⟨k, x, hk⟩ | q
    · simp at hk
    · omega
  generalize hAe : va_A [] s.heap.size = A at hbA ⊢
  have hS : va_S A s.heap s.heap [] := va_S.rf
  refine W.eq (show entryFrame m args 2 = _ from by rw [hv0, lg_entry_eq]) ?_
  have hl := lv_entry ([.ref b, .int (nI t)]) (n := 2) (Nat.le_of_ble_eq_true rfl)
  generalize (lg_sl ([.ref b, .int (nI t)]) ++ List.replicate (2 - (lg_sl ([.ref b, .int (nI t)])).length) Slot.unset).toArray = ls at hl ⊢
  have hl : lv_has ls 2 [(0, .ref b), (1, .int (nI t))] := hl
  refine lv_iload_n hx hb dL_cell_0 rfl (lv_at hl 1 rfl) ?_
  refine lv_aload_n hx hb dL_cell_1 rfl (lv_at hl 0 rfl) ?_
  refine va_slen hx hb hX hbl hbA hS dL_cell_2 ?_
  refine lv_icmp_ge (tgt := 12) hx hb dL_cell_3 (by decide) (fun c1 => ?_) (fun c1 => ?_)
  · refine lv_ldc (v := 48239) hx hb hown (hts (.constant RL 7 48239) (by decide +kernel)) dL_cell_12 ?_
    refine lv_iload_n hx hb dL_cell_14 rfl (lv_at hl 1 rfl) ?_
    refine lv_bipush (v := 37) hx hb dL_cell_15 (by decide) ?_
    refine lv_iadd hx hb dL_cell_17 ?_
    refine lv_imul hx hb dL_cell_18 ?_
    refine lv_ldc (v := 1810389) hx hb hown (hts (.constant RL 8 1810389) (by decide +kernel)) dL_cell_19 ?_
    refine lv_iadd hx hb dL_cell_21 ?_
    refine lv_topi (fun y ey => ?_)
    exact W.iret (v := y) hx hb hr (fun t ht hW => ⟨⟨y, (), rfl, trivial, ⟨kv_nilP, kv_nilD⟩⟩, hS.F ht⟩) hS.2.2 dL_cell_22
  · have htL : t < L := Nat.not_le.mp (fun q => c1 (nI_le q (by omega)))
    refine lv_aload_n hx hb dL_cell_6 rfl (lv_at hl 0 rfl) ?_
    refine lv_iload_n hx hb dL_cell_7 rfl (lv_at hl 1 rfl) ?_
    refine va_sld hx hb hX hbl hbA hS (vp_in_nI htL (by omega)) dL_cell_8 ?_
    refine lv_goto (tgt := 22) hx hb dL_cell_9 (by decide) ?_
    refine lv_topi (fun y ey => ?_)
    exact W.iret (v := y) hx hb hr (fun t ht hW => ⟨⟨y, (), rfl, trivial, ⟨kv_nilP, kv_nilD⟩⟩, hS.F ht⟩) hS.2.2 dL_cell_22
end KVC60

section KVLW
def law_K (p : Program) (l : Launch) (en : Env) (s : State) (m : MethodId) (below : List Frame) (meth : Method) (c : Code) (D : va_G) (ci la ad : Nat → Nat) (aS b : Nat) (x6 : Int32) (pc cm sm : Nat) : Prop :=
  ∀ (cl sl : Nat) (lm : Nat → Int32) (lp : Nat → Int32) (lr : Nat → Int32) (lq : Nat → Int32) (kc : Nat → Int32) (kh : Nat → Int32) (ks : Nat → Int32) (fo : Nat → Nat → Int32) (kl : Nat → Int32) (kp : Nat → Int32) (dy : Int32) (mo : Int32) (n : Nat) (pa : Nat → Nat) (aE : Nat) (qp : Nat → Int32) (qm : Nat → Int32) (ql : Nat → Int32) (qv : Nat → Int32) (qc : Nat → Int32) (qe : Nat → Int32) (mt : Nat → Int32) (mv : Nat → Int32) (sw : Nat → Int32) (hv : Int32) (tk : Nat → Int32) (tn : Nat → Int32) (sc : Nat → Int32) (H : Heap) (locs : List Loc) (ls : Array Slot), cl ≤ cm → sl ≤ sm → kv_li lm lp lr lq kc kh fo kl kp dy n qp qm ql qv qc qe sw → (n = 0 → aE = aS) → va_P D vwCl (kv_lkw ci la ad lm lp lr lq kc kh ks fo kl kp dy mo n pa aE qp qm ql qv qc qe mt mv sw hv tk tn sc) H → va_D (fun q : Nat => s.heap.size ≤ q) (kv_lkw ci la ad lm lp lr lq kc kh ks fo kl kp dy mo n pa aE qp qm ql qv qc qe mt mv sw hv tk tn sc) → va_S (fun q : Nat => s.heap.size ≤ q) s.heap H locs → lv_has ls 10 [(0, .ref b), (1, .ref (ad 0)), (2, .ref (la 0)), (3, .ref (la 1)), (4, .ref (la 2)), (5, .ref (la 3)), (6, .int x6)] → W p l en room_1 s m #[Value.ref b] below meth c H locs cl sl (lw_Z below #[Value.ref b] s) (F0 m pc ls [])
def law_K2 (p : Program) (l : Launch) (en : Env) (s : State) (m : MethodId) (below : List Frame) (meth : Method) (c : Code) (D : va_G) (ci la ad : Nat → Nat) (aS b : Nat) (x6 z : Int32) (pc cm sm : Nat) : Prop :=
  ∀ (cl sl : Nat) (lm : Nat → Int32) (lp : Nat → Int32) (lr : Nat → Int32) (lq : Nat → Int32) (kc : Nat → Int32) (kh : Nat → Int32) (ks : Nat → Int32) (fo : Nat → Nat → Int32) (kl : Nat → Int32) (kp : Nat → Int32) (dy : Int32) (mo : Int32) (n : Nat) (pa : Nat → Nat) (aE : Nat) (qp : Nat → Int32) (qm : Nat → Int32) (ql : Nat → Int32) (qv : Nat → Int32) (qc : Nat → Int32) (qe : Nat → Int32) (mt : Nat → Int32) (mv : Nat → Int32) (sw : Nat → Int32) (hv : Int32) (tk : Nat → Int32) (tn : Nat → Int32) (sc : Nat → Int32) (H : Heap) (locs : List Loc) (ls : Array Slot), cl ≤ cm → sl ≤ sm → kv_li lm lp lr lq kc kh fo kl kp dy n qp qm ql qv qc qe sw → (n = 0 → aE = aS) → va_P D vwCl (kv_lkw ci la ad lm lp lr lq kc kh ks fo kl kp dy mo n pa aE qp qm ql qv qc qe mt mv sw hv tk tn sc) H → va_D (fun q : Nat => s.heap.size ≤ q) (kv_lkw ci la ad lm lp lr lq kc kh ks fo kl kp dy mo n pa aE qp qm ql qv qc qe mt mv sw hv tk tn sc) → va_S (fun q : Nat => s.heap.size ≤ q) s.heap H locs → lv_has ls 10 [(9, .int 1), (7, .int z), (0, .ref b), (1, .ref (ad 0)), (2, .ref (la 0)), (3, .ref (la 1)), (4, .ref (la 2)), (5, .ref (la 3)), (6, .int x6)] → W p l en room_1 s m #[Value.ref b] below meth c H locs cl sl (lw_Z below #[Value.ref b] s) (F0 m pc ls [])
/-- what stands through the whole law -/
def law_C (p : Program) (l : Launch) (s : State) (m : MethodId) (meth : Method) (c : Code) (D : va_G) (ci : Nat → Nat) (aS b L : Nat) (xs : Nat → Int32) : Prop :=
  lw_At p s m meth c b L xs ∧ l.stackTraces = false ∧ kv_thr (fun q : Nat => s.heap.size ≤ q) s ∧ kv_lst aS (fun q : Nat => s.heap.size ≤ q) s ∧ kv_nc s ∧ va_K D vwCl (kv_tys ci) s
theorem kv_room1 {x : Nat} (h : x ≤ 100000) : x ≤ room_1.cells := Nat.le_trans h (Nat.le_of_ble_eq_true rfl)
theorem kv_room2 {x : Nat} (h : x ≤ 1000000) : x ≤ room_1.slots := Nat.le_trans h (Nat.le_of_ble_eq_true rfl)
set_option maxHeartbeats 8000000 in
set_option maxRecDepth 100000 in
theorem law_machines {p : Program} {l : Launch} {en : Env} {s : State} {m : MethodId} {below : List Frame} {meth : Method} {c : Code} {D : va_G} {ci la ad : Nat → Nat} {aS b L : Nat} {xs : Nat → Int32} (hL : L ≤ 260) (hC : law_C p l s m meth c D ci aS b L xs) {x6 z x8 a : Int32} {cl sl : Nat} (hcl : cl ≤ 50000) (hsl : sl ≤ 500000) {lm : Nat → Int32} {lp : Nat → Int32} {lr : Nat → Int32} {lq : Nat → Int32} {kc : Nat → Int32} {kh : Nat → Int32} {ks : Nat → Int32} {fo : Nat → Nat → Int32} {kl : Nat → Int32} {kp : Nat → Int32} {dy : Int32} {mo : Int32} {n : Nat} {pa : Nat → Nat} {aE : Nat} {qp : Nat → Int32} {qm : Nat → Int32} {ql : Nat → Int32} {qv : Nat → Int32} {qc : Nat → Int32} {qe : Nat → Int32} {mt : Nat → Int32} {mv : Nat → Int32} {sw : Nat → Int32} {hv : Int32} {tk : Nat → Int32} {tn : Nat → Int32} {sc : Nat → Int32} (hI : kv_li lm lp lr lq kc kh fo kl kp dy n qp qm ql qv qc qe sw) (hE : n = 0 → aE = aS) {H : Heap} {locs : List Loc} {ls : Array Slot} (hP : va_P D vwCl (kv_lkw ci la ad lm lp lr lq kc kh ks fo kl kp dy mo n pa aE qp qm ql qv qc qe mt mv sw hv tk tn sc) H) (hD : va_D (fun q : Nat => s.heap.size ≤ q) (kv_lkw ci la ad lm lp lr lq kc kh ks fo kl kp dy mo n pa aE qp qm ql qv qc qe mt mv sw hv tk tn sc)) (hS : va_S (fun q : Nat => s.heap.size ≤ q) s.heap H locs) (hl : lv_has ls 10 [(0, .ref b), (1, .ref (ad 0)), (2, .ref (la 0)), (3, .ref (la 1)), (4, .ref (la 2)), (5, .ref (la 3)), (6, .int x6), (7, .int z), (8, .int x8), (9, .int 1)]) (hkk : law_K2 p l en s m below meth c D ci la ad aS b x6 z 276 (cl + 20) (sl + 120)) : W p l en room_1 s m #[Value.ref b] below meth c H locs cl sl (lw_Z below #[Value.ref b] s) (F0 m 142 ls [.int a, .ref (ad 0)]) := by
  obtain ⟨⟨hx, hb, hr, hml, hown, hts0, hX, hbl, hlocks, hgv⟩, hl9, hT, hT2, hN, hK⟩ := id hC
  have hown : s.vm.findClass RL = some m.cls := hown
  have hts := fun w h => hts0 w (wsL_law_in w h)
  have hA : ∀ q : Nat, s.heap.size ≤ q → (fun q : Nat => s.heap.size ≤ q) q := fun _ h => h
  have hbA : ¬ (fun q : Nat => s.heap.size ≤ q) b := Nat.not_le.mpr hbl
  obtain ⟨w1, w2, w3, w4, e9, hI9⟩ := u_mach hI a (z >>> (4 &&& 31))
  refine lv_iload hx hb dL_law_142 (lv_at hl 7 rfl) ?_
  refine lv_iconst (v := 4) hx hb dL_law_144 (by decide) ?_
  refine lv_ishr hx hb dL_law_145 ?_
  refine lv_aload_n hx hb dL_law_146 rfl (lv_at hl 2 rfl) ?_
  refine lv_aload_n hx hb dL_law_147 rfl (lv_at hl 3 rfl) ?_
  refine kv_calli (va_runS (As := [.ref (ad 0), .int a, .int (z >>> (4 &&& 31)), .ref (la 0), .ref (la 1)]) (rest := []) ⟨hx, hb, hml, hown, hts⟩ (c_L_machines l hl9 D ci la ad aS lm lp lr lq kc kh ks fo kl kp dy mo n pa aE qp qm ql qv qc qe mt mv sw hv tk tn sc a (z >>> (4 &&& 31)) (by rw [e9]; exact Option.some_ne_none _) H.size) (va_cwS 5 hts gL_law_L_machines rfl rfl rfl (by decide +kernel) ⟨Nat.le_of_ble_eq_true rfl, Nat.le_of_ble_eq_true rfl⟩) (kv_preSW hK hP hD hT hT2 hN hS hA) rfl rfl hl.1 rfl (lv_room (Nat.le_of_ble_eq_true rfl)) dL_law_148 ⟨kv_room1 (by omega), kv_room2 (by omega)⟩) hD hS hA (fun r u H locs hw hP hD hS => ?_)
  obtain ⟨o0, o1, o2, o3⟩ := u
  have q9 := Option.some.inj (hw.symm.trans e9)
  simp only [Prod.mk.injEq] at q9
  obtain ⟨rfl, rfl, rfl, rfl, rfl⟩ := q9
  have hP : va_P D vwCl (kv_lkw ci la ad o0 lp lr lq o1 o2 ks o3 kl kp dy mo n pa aE qp qm ql qv qc qe mt mv sw hv tk tn sc) H := hP
  have hD : va_D (fun q : Nat => s.heap.size ≤ q) (kv_lkw ci la ad o0 lp lr lq o1 o2 ks o3 kl kp dy mo n pa aE qp qm ql qv qc qe mt mv sw hv tk tn sc) := hD
  refine lv_istore (lv' := [(9, .int 1), (0, .ref b), (1, .ref (ad 0)), (2, .ref (la 0)), (3, .ref (la 1)), (4, .ref (la 2)), (5, .ref (la 3)), (6, .int x6), (7, .int z), (8, .int x8)]) hx hb dL_law_151 hl (by decide) rfl (fun ls hl => ?_)
  refine lv_goto (tgt := 276) hx hb dL_law_153 (by decide) ?_
  exact hkk _ _ o0 lp lr lq o1 o2 ks o3 kl kp dy mo n pa aE qp qm ql qv qc qe mt mv sw hv tk tn sc H locs ls (by omega) (by omega) hI9 hE hP hD hS (lv_sub hl [0, 8, 1, 2, 3, 4, 5, 6, 7] rfl)

set_option maxHeartbeats 8000000 in
set_option maxRecDepth 100000 in
theorem law_rights {p : Program} {l : Launch} {en : Env} {s : State} {m : MethodId} {below : List Frame} {meth : Method} {c : Code} {D : va_G} {ci la ad : Nat → Nat} {aS b L : Nat} {xs : Nat → Int32} (hL : L ≤ 260) (hC : law_C p l s m meth c D ci aS b L xs) {x6 z x8 a : Int32} {cl sl : Nat} (hcl : cl ≤ 50000) (hsl : sl ≤ 500000) {lm : Nat → Int32} {lp : Nat → Int32} {lr : Nat → Int32} {lq : Nat → Int32} {kc : Nat → Int32} {kh : Nat → Int32} {ks : Nat → Int32} {fo : Nat → Nat → Int32} {kl : Nat → Int32} {kp : Nat → Int32} {dy : Int32} {mo : Int32} {n : Nat} {pa : Nat → Nat} {aE : Nat} {qp : Nat → Int32} {qm : Nat → Int32} {ql : Nat → Int32} {qv : Nat → Int32} {qc : Nat → Int32} {qe : Nat → Int32} {mt : Nat → Int32} {mv : Nat → Int32} {sw : Nat → Int32} {hv : Int32} {tk : Nat → Int32} {tn : Nat → Int32} {sc : Nat → Int32} (hI : kv_li lm lp lr lq kc kh fo kl kp dy n qp qm ql qv qc qe sw) (hE : n = 0 → aE = aS) {H : Heap} {locs : List Loc} {ls : Array Slot} (hP : va_P D vwCl (kv_lkw ci la ad lm lp lr lq kc kh ks fo kl kp dy mo n pa aE qp qm ql qv qc qe mt mv sw hv tk tn sc) H) (hD : va_D (fun q : Nat => s.heap.size ≤ q) (kv_lkw ci la ad lm lp lr lq kc kh ks fo kl kp dy mo n pa aE qp qm ql qv qc qe mt mv sw hv tk tn sc)) (hS : va_S (fun q : Nat => s.heap.size ≤ q) s.heap H locs) (hl : lv_has ls 10 [(0, .ref b), (1, .ref (ad 0)), (2, .ref (la 0)), (3, .ref (la 1)), (4, .ref (la 2)), (5, .ref (la 3)), (6, .int x6), (7, .int z), (8, .int x8), (9, .int 1)]) (hkk : law_K2 p l en s m below meth c D ci la ad aS b x6 z 276 (cl + 20) (sl + 120)) : W p l en room_1 s m #[Value.ref b] below meth c H locs cl sl (lw_Z below #[Value.ref b] s) (F0 m 187 ls [.int a, .ref (ad 0)]) := by
  obtain ⟨⟨hx, hb, hr, hml, hown, hts0, hX, hbl, hlocks, hgv⟩, hl9, hT, hT2, hN, hK⟩ := id hC
  have hown : s.vm.findClass RL = some m.cls := hown
  have hts := fun w h => hts0 w (wsL_law_in w h)
  have hA : ∀ q : Nat, s.heap.size ≤ q → (fun q : Nat => s.heap.size ≤ q) q := fun _ h => h
  have hbA : ¬ (fun q : Nat => s.heap.size ≤ q) b := Nat.not_le.mpr hbl
  obtain ⟨w1, w2, w3, w4, w5, w6, w7, w8, w9, w10, e9, hI9⟩ := u_rights hI mo a (z >>> (4 &&& 31))
  refine lv_iload hx hb dL_law_187 (lv_at hl 7 rfl) ?_
  refine lv_iconst (v := 4) hx hb dL_law_189 (by decide) ?_
  refine lv_ishr hx hb dL_law_190 ?_
  refine lv_aload_n hx hb dL_law_191 rfl (lv_at hl 3 rfl) ?_
  refine lv_aload hx hb dL_law_192 (lv_at hl 4 rfl) ?_
  refine lv_aload hx hb dL_law_194 (lv_at hl 5 rfl) ?_
  refine kv_calli (va_runS (As := [.ref (ad 0), .int a, .int (z >>> (4 &&& 31)), .ref (la 1), .ref (la 2), .ref (la 3)]) (rest := []) ⟨hx, hb, hml, hown, hts⟩ (c_L_rights l hl9 D ci la ad aS lm lp lr lq kc kh ks fo kl kp dy mo n pa aE qp qm ql qv qc qe mt mv sw hv tk tn sc a (z >>> (4 &&& 31)) hE (by rw [e9]; exact Option.some_ne_none _) H.size) (va_cwS 6 hts gL_law_L_rights rfl rfl rfl (by decide +kernel) ⟨Nat.le_of_ble_eq_true rfl, Nat.le_of_ble_eq_true rfl⟩) (kv_preSW hK hP hD hT hT2 hN hS hA) rfl rfl hl.1 rfl (lv_room (Nat.le_of_ble_eq_true rfl)) dL_law_196 ⟨kv_room1 (by omega), kv_room2 (by omega)⟩) hD hS hA (fun r u H locs hw hP hD hS => ?_)
  obtain ⟨o0, o1, o2, o3, o4, o5, o6, o7, o8, o9, o10, o11⟩ := u
  obtain ⟨hw, hE⟩ := hw
  have q9 := Option.some.inj (hw.symm.trans e9)
  simp only [Prod.mk.injEq] at q9
  obtain ⟨rfl, rfl, rfl, rfl, rfl, rfl, rfl, rfl, rfl, rfl, rfl⟩ := q9
  have hP : va_P D vwCl (kv_lkw ci la ad lm lp o0 o1 kc kh ks fo kl kp dy o2 o3 o10 o11 o4 o5 o6 o7 o8 o9 mt mv sw hv tk tn sc) H := hP
  have hD : va_D (fun q : Nat => s.heap.size ≤ q) (kv_lkw ci la ad lm lp o0 o1 kc kh ks fo kl kp dy o2 o3 o10 o11 o4 o5 o6 o7 o8 o9 mt mv sw hv tk tn sc) := hD
  refine lv_istore (lv' := [(9, .int 1), (0, .ref b), (1, .ref (ad 0)), (2, .ref (la 0)), (3, .ref (la 1)), (4, .ref (la 2)), (5, .ref (la 3)), (6, .int x6), (7, .int z), (8, .int x8)]) hx hb dL_law_199 hl (by decide) rfl (fun ls hl => ?_)
  refine lv_goto (tgt := 276) hx hb dL_law_201 (by decide) ?_
  exact hkk _ _ lm lp o0 o1 kc kh ks fo kl kp dy o2 o3 o10 o11 o4 o5 o6 o7 o8 o9 mt mv sw hv tk tn sc H locs ls (by omega) (by omega) hI9 hE hP hD hS (lv_sub hl [0, 8, 1, 2, 3, 4, 5, 6, 7] rfl)

set_option maxHeartbeats 8000000 in
set_option maxRecDepth 100000 in
theorem law_products {p : Program} {l : Launch} {en : Env} {s : State} {m : MethodId} {below : List Frame} {meth : Method} {c : Code} {D : va_G} {ci la ad : Nat → Nat} {aS b L : Nat} {xs : Nat → Int32} (hL : L ≤ 260) (hC : law_C p l s m meth c D ci aS b L xs) {x6 z x8 : Int32} {cl sl : Nat} (hcl : cl ≤ 50000) (hsl : sl ≤ 500000) {lm : Nat → Int32} {lp : Nat → Int32} {lr : Nat → Int32} {lq : Nat → Int32} {kc : Nat → Int32} {kh : Nat → Int32} {ks : Nat → Int32} {fo : Nat → Nat → Int32} {kl : Nat → Int32} {kp : Nat → Int32} {dy : Int32} {mo : Int32} {n : Nat} {pa : Nat → Nat} {aE : Nat} {qp : Nat → Int32} {qm : Nat → Int32} {ql : Nat → Int32} {qv : Nat → Int32} {qc : Nat → Int32} {qe : Nat → Int32} {mt : Nat → Int32} {mv : Nat → Int32} {sw : Nat → Int32} {hv : Int32} {tk : Nat → Int32} {tn : Nat → Int32} {sc : Nat → Int32} (hI : kv_li lm lp lr lq kc kh fo kl kp dy n qp qm ql qv qc qe sw) (hE : n = 0 → aE = aS) {H : Heap} {locs : List Loc} {ls : Array Slot} (hP : va_P D vwCl (kv_lkw ci la ad lm lp lr lq kc kh ks fo kl kp dy mo n pa aE qp qm ql qv qc qe mt mv sw hv tk tn sc) H) (hD : va_D (fun q : Nat => s.heap.size ≤ q) (kv_lkw ci la ad lm lp lr lq kc kh ks fo kl kp dy mo n pa aE qp qm ql qv qc qe mt mv sw hv tk tn sc)) (hS : va_S (fun q : Nat => s.heap.size ≤ q) s.heap H locs) (hl : lv_has ls 10 [(0, .ref b), (1, .ref (ad 0)), (2, .ref (la 0)), (3, .ref (la 1)), (4, .ref (la 2)), (5, .ref (la 3)), (6, .int x6), (7, .int z), (8, .int x8), (9, .int 1)]) (hkk : law_K2 p l en s m below meth c D ci la ad aS b x6 z 276 (cl + 20) (sl + 120)) : W p l en room_1 s m #[Value.ref b] below meth c H locs cl sl (lw_Z below #[Value.ref b] s) (F0 m 212 ls [.ref (ad 0)]) := by
  obtain ⟨⟨hx, hb, hr, hml, hown, hts0, hX, hbl, hlocks, hgv⟩, hl9, hT, hT2, hN, hK⟩ := id hC
  have hown : s.vm.findClass RL = some m.cls := hown
  have hts := fun w h => hts0 w (wsL_law_in w h)
  have hA : ∀ q : Nat, s.heap.size ≤ q → (fun q : Nat => s.heap.size ≤ q) q := fun _ h => h
  have hbA : ¬ (fun q : Nat => s.heap.size ≤ q) b := Nat.not_le.mpr hbl
  obtain ⟨w1, w2, w3, w4, w5, e9, hI9⟩ := u_prod hI (z >>> (4 &&& 31))
  refine lv_iload hx hb dL_law_212 (lv_at hl 7 rfl) ?_
  refine lv_iconst (v := 4) hx hb dL_law_214 (by decide) ?_
  refine lv_ishr hx hb dL_law_215 ?_
  refine lv_aload_n hx hb dL_law_216 rfl (lv_at hl 3 rfl) ?_
  refine lv_aload hx hb dL_law_217 (lv_at hl 4 rfl) ?_
  refine lv_aload hx hb dL_law_219 (lv_at hl 5 rfl) ?_
  refine kv_calli (va_runS (As := [.ref (ad 0), .int (z >>> (4 &&& 31)), .ref (la 1), .ref (la 2), .ref (la 3)]) (rest := []) ⟨hx, hb, hml, hown, hts⟩ (c_L_products l hl9 D ci la ad aS lm lp lr lq kc kh ks fo kl kp dy mo n pa aE qp qm ql qv qc qe mt mv sw hv tk tn sc (z >>> (4 &&& 31)) (by rw [e9]; exact Option.some_ne_none _) H.size) (va_cwS 5 hts gL_law_L_products rfl rfl rfl (by decide +kernel) ⟨Nat.le_of_ble_eq_true rfl, Nat.le_of_ble_eq_true rfl⟩) (kv_preSW hK hP hD hT hT2 hN hS hA) rfl rfl hl.1 rfl (lv_room (Nat.le_of_ble_eq_true rfl)) dL_law_221 ⟨kv_room1 (by omega), kv_room2 (by omega)⟩) hD hS hA (fun r u H locs hw hP hD hS => ?_)
  obtain ⟨o0, o1, o2, o3, o4⟩ := u
  have q9 := Option.some.inj (hw.symm.trans e9)
  simp only [Prod.mk.injEq] at q9
  obtain ⟨rfl, rfl, rfl, rfl, rfl, rfl⟩ := q9
  have hP : va_P D vwCl (kv_lkw ci la ad lm o0 o1 lq kc kh ks fo o2 o3 dy mo n pa aE qp qm ql o4 qc qe mt mv sw hv tk tn sc) H := hP
  have hD : va_D (fun q : Nat => s.heap.size ≤ q) (kv_lkw ci la ad lm o0 o1 lq kc kh ks fo o2 o3 dy mo n pa aE qp qm ql o4 qc qe mt mv sw hv tk tn sc) := hD
  refine lv_istore (lv' := [(9, .int 1), (0, .ref b), (1, .ref (ad 0)), (2, .ref (la 0)), (3, .ref (la 1)), (4, .ref (la 2)), (5, .ref (la 3)), (6, .int x6), (7, .int z), (8, .int x8)]) hx hb dL_law_224 hl (by decide) rfl (fun ls hl => ?_)
  refine lv_goto (tgt := 276) hx hb dL_law_226 (by decide) ?_
  exact hkk _ _ lm o0 o1 lq kc kh ks fo o2 o3 dy mo n pa aE qp qm ql o4 qc qe mt mv sw hv tk tn sc H locs ls (by omega) (by omega) hI9 hE hP hD hS (lv_sub hl [0, 8, 1, 2, 3, 4, 5, 6, 7] rfl)

set_option maxHeartbeats 8000000 in
set_option maxRecDepth 100000 in
theorem law_days {p : Program} {l : Launch} {en : Env} {s : State} {m : MethodId} {below : List Frame} {meth : Method} {c : Code} {D : va_G} {ci la ad : Nat → Nat} {aS b L : Nat} {xs : Nat → Int32} (hL : L ≤ 260) (hC : law_C p l s m meth c D ci aS b L xs) {x6 z x8 : Int32} {cl sl : Nat} (hcl : cl ≤ 50000) (hsl : sl ≤ 500000) {lm : Nat → Int32} {lp : Nat → Int32} {lr : Nat → Int32} {lq : Nat → Int32} {kc : Nat → Int32} {kh : Nat → Int32} {ks : Nat → Int32} {fo : Nat → Nat → Int32} {kl : Nat → Int32} {kp : Nat → Int32} {dy : Int32} {mo : Int32} {n : Nat} {pa : Nat → Nat} {aE : Nat} {qp : Nat → Int32} {qm : Nat → Int32} {ql : Nat → Int32} {qv : Nat → Int32} {qc : Nat → Int32} {qe : Nat → Int32} {mt : Nat → Int32} {mv : Nat → Int32} {sw : Nat → Int32} {hv : Int32} {tk : Nat → Int32} {tn : Nat → Int32} {sc : Nat → Int32} (hI : kv_li lm lp lr lq kc kh fo kl kp dy n qp qm ql qv qc qe sw) (hE : n = 0 → aE = aS) {H : Heap} {locs : List Loc} {ls : Array Slot} (hP : va_P D vwCl (kv_lkw ci la ad lm lp lr lq kc kh ks fo kl kp dy mo n pa aE qp qm ql qv qc qe mt mv sw hv tk tn sc) H) (hD : va_D (fun q : Nat => s.heap.size ≤ q) (kv_lkw ci la ad lm lp lr lq kc kh ks fo kl kp dy mo n pa aE qp qm ql qv qc qe mt mv sw hv tk tn sc)) (hS : va_S (fun q : Nat => s.heap.size ≤ q) s.heap H locs) (hl : lv_has ls 10 [(0, .ref b), (1, .ref (ad 0)), (2, .ref (la 0)), (3, .ref (la 1)), (4, .ref (la 2)), (5, .ref (la 3)), (6, .int x6), (7, .int z), (8, .int x8), (9, .int 1)]) (hkk : law_K2 p l en s m below meth c D ci la ad aS b x6 z 276 (cl + 20) (sl + 120)) : W p l en room_1 s m #[Value.ref b] below meth c H locs cl sl (lw_Z below #[Value.ref b] s) (F0 m 229 ls []) := by
  obtain ⟨⟨hx, hb, hr, hml, hown, hts0, hX, hbl, hlocks, hgv⟩, hl9, hT, hT2, hN, hK⟩ := id hC
  have hown : s.vm.findClass RL = some m.cls := hown
  have hts := fun w h => hts0 w (wsL_law_in w h)
  have hA : ∀ q : Nat, s.heap.size ≤ q → (fun q : Nat => s.heap.size ≤ q) q := fun _ h => h
  have hbA : ¬ (fun q : Nat => s.heap.size ≤ q) b := Nat.not_le.mpr hbl
  obtain ⟨a, ha, ea⟩ := u_lowL (z >>> (5 &&& 31)) 20 (k := 20) rfl (by decide) (by decide)
  refine lv_aload hx hb dL_law_229 (lv_at hl 5 rfl) ?_
  refine lv_iconst (v := 0) hx hb dL_law_231 (by decide) ?_
  refine lv_dup2_11 hx hb dL_law_232 rfl rfl ?_
  refine kv_iald hx hb hK hP 3 0 (n := 3) (by unfold vp_in; decide) dL_law_233 rfl rfl (fun y1 ey1 => ?_)
  refine lv_iconst (v := 1) hx hb dL_law_234 (by decide) ?_
  refine lv_iload hx hb dL_law_235 (lv_at hl 7 rfl) ?_
  refine lv_iconst (v := 5) hx hb dL_law_237 (by decide) ?_
  refine lv_ishr hx hb dL_law_238 ?_
  refine lv_bipush (v := 20) hx hb dL_law_239 (by decide) ?_
  have hP : va_P D vwCl ((kv_lw ci la lm lp lr lq) ++ (kv_kw ci ad kc kh ks fo kl kp dy mo n pa aE qp qm ql qv qc qe mt mv sw hv tk tn sc)) H := hP
  have hD : va_D (fun q : Nat => s.heap.size ≤ q) ((kv_lw ci la lm lp lr lq) ++ (kv_kw ci ad kc kh ks fo kl kp dy mo n pa aE qp qm ql qv qc qe mt mv sw hv tk tn sc)) := hD
  refine kv_calliF (va_runS (As := [.int (z >>> (5 &&& 31)), .int 20]) (rest := [.int 1, .int y1, .int 0, .ref (la 3)]) ⟨hx, hb, hml, hown, hts⟩ (c_L_low l D ci la lm lp lr lq (z >>> (5 &&& 31)) 20 (by rw [ea]; exact Option.some_ne_none _) H.size) (va_cwS 2 hts gL_law_L_low rfl rfl rfl (by decide +kernel) ⟨Nat.le_of_ble_eq_true rfl, Nat.le_of_ble_eq_true rfl⟩) (kv_preS hK (kv_Pl hP) (kv_Dl hD)) rfl rfl hl.1 rfl (lv_room (Nat.le_of_ble_eq_true rfl)) dL_law_241 ⟨kv_room1 (by omega), kv_room2 (by omega)⟩) hP hD hS hA (fun r2 u H locs hw hP hD hS => ?_)
  obtain rfl : r2 = nI a := Option.some.inj (hw.symm.trans ea)
  have hP : va_P D vwCl (kv_lkw ci la ad lm lp lr lq kc kh ks fo kl kp dy mo n pa aE qp qm ql qv qc qe mt mv sw hv tk tn sc) H := hP
  have hD : va_D (fun q : Nat => s.heap.size ≤ q) (kv_lkw ci la ad lm lp lr lq kc kh ks fo kl kp dy mo n pa aE qp qm ql qv qc qe mt mv sw hv tk tn sc) := hD
  refine lv_iadd hx hb dL_law_244 ?_
  refine lv_iadd hx hb dL_law_245 ?_
  refine kv_iast hx hb hK hP hD hS 3 0 (n := 3) (fun g3 => (kv_lkw ci la ad lm lp lr g3 kc kh ks fo kl kp dy mo n pa aE qp qm ql qv qc qe mt mv sw hv tk tn sc)) (by unfold vp_in; decide) dL_law_246 rfl rfl (fun _ => rfl) (fun g3 H locs eg3 hP hD hS => ?_)
  refine lv_aload_n hx hb dL_law_247 rfl (lv_at hl 1 rfl) ?_
  refine lv_iconst (v := 1) hx hb dL_law_248 (by decide) ?_
  refine lv_iload hx hb dL_law_249 (lv_at hl 7 rfl) ?_
  refine lv_iconst (v := 5) hx hb dL_law_251 (by decide) ?_
  refine lv_ishr hx hb dL_law_252 ?_
  refine lv_bipush (v := 20) hx hb dL_law_253 (by decide) ?_
  have hP : va_P D vwCl ((kv_lw ci la lm lp lr g3) ++ (kv_kw ci ad kc kh ks fo kl kp dy mo n pa aE qp qm ql qv qc qe mt mv sw hv tk tn sc)) H := hP
  have hD : va_D (fun q : Nat => s.heap.size ≤ q) ((kv_lw ci la lm lp lr g3) ++ (kv_kw ci ad kc kh ks fo kl kp dy mo n pa aE qp qm ql qv qc qe mt mv sw hv tk tn sc)) := hD
  refine kv_calliF (va_runS (As := [.int (z >>> (5 &&& 31)), .int 20]) (rest := [.int 1, .ref (ad 0)]) ⟨hx, hb, hml, hown, hts⟩ (c_L_low l D ci la lm lp lr g3 (z >>> (5 &&& 31)) 20 (by rw [ea]; exact Option.some_ne_none _) H.size) (va_cwS 2 hts gL_law_L_low rfl rfl rfl (by decide +kernel) ⟨Nat.le_of_ble_eq_true rfl, Nat.le_of_ble_eq_true rfl⟩) (kv_preS hK (kv_Pl hP) (kv_Dl hD)) rfl rfl hl.1 rfl (lv_room (Nat.le_of_ble_eq_true rfl)) dL_law_255 ⟨kv_room1 (by omega), kv_room2 (by omega)⟩) hP hD hS hA (fun r4 u H locs hw hP hD hS => ?_)
  obtain rfl : r4 = nI a := Option.some.inj (hw.symm.trans ea)
  have hP : va_P D vwCl (kv_lkw ci la ad lm lp lr g3 kc kh ks fo kl kp dy mo n pa aE qp qm ql qv qc qe mt mv sw hv tk tn sc) H := hP
  have hD : va_D (fun q : Nat => s.heap.size ≤ q) (kv_lkw ci la ad lm lp lr g3 kc kh ks fo kl kp dy mo n pa aE qp qm ql qv qc qe mt mv sw hv tk tn sc) := hD
  refine lv_iadd hx hb dL_law_258 ?_
  have x1 : 1 ≤ 1 + nI a := by rw [kv_1a]; exact nI_le (a := 1) (by omega) (by omega)
  have x2 : 1 + nI a ≤ 400 := by rw [kv_1a]; exact nI_le (b := 400) (by omega) (by decide)
  have ep := n_pass dy x1 x2
  have hP : va_P D vwCl ((kv_kw ci ad kc kh ks fo kl kp dy mo n pa aE qp qm ql qv qc qe mt mv sw hv tk tn sc) ++ (kv_lw ci la lm lp lr g3)) H := kv_commP hP
  have hD : va_D (fun q : Nat => s.heap.size ≤ q) ((kv_kw ci ad kc kh ks fo kl kp dy mo n pa aE qp qm ql qv qc qe mt mv sw hv tk tn sc) ++ (kv_lw ci la lm lp lr g3)) := kv_commD hD
  refine kv_calliF (va_runV (As := [.int (1 + (nI a))]) (rest := []) ⟨hx, hb, hml, hown, hts⟩ (c_X2n_pass l D ci ad kc kh ks fo kl kp dy mo n pa aE qp qm ql qv qc qe mt mv sw hv tk tn sc (1 + nI a) (by rw [ep]; exact Option.some_ne_none _) H.size) (cwV 1 hts gL_law_X2_pass rfl rfl rfl (by decide +kernel) ⟨Nat.le_of_ble_eq_true rfl, Nat.le_of_ble_eq_true rfl⟩) (kv_preV hK (kv_Pl hP) (kv_Dl hD) (r := (RX2, TX2, 9)) (q0 := 0) (k := 3) rfl rfl rfl) rfl rfl hl.1 rfl (lv_room (Nat.le_of_ble_eq_true rfl)) dL_law_259 ⟨kv_room1 (by omega), kv_room2 (by omega)⟩) hP hD hS hA (fun r u H locs hw hP hD hS => ?_)
  have q9 := Option.some.inj (hw.symm.trans ep)
  simp only [Prod.mk.injEq] at q9
  obtain ⟨rfl, rfl⟩ := q9
  have hP : va_P D vwCl (kv_lkw ci la ad lm lp lr g3 kc kh ks fo kl kp (dy + (1 + nI a)) mo n pa aE qp qm ql qv qc qe mt mv sw hv tk tn sc) H := kv_commP hP
  have hD : va_D (fun q : Nat => s.heap.size ≤ q) (kv_lkw ci la ad lm lp lr g3 kc kh ks fo kl kp (dy + (1 + nI a)) mo n pa aE qp qm ql qv qc qe mt mv sw hv tk tn sc) := kv_commD hD
  refine lv_aload hx hb dL_law_262 (lv_at hl 5 rfl) ?_
  refine lv_iconst (v := 0) hx hb dL_law_264 (by decide) ?_
  refine kv_iald hx hb hK hP 3 0 (n := 3) (by unfold vp_in; decide) dL_law_265 rfl rfl (fun y5 ey5 => ?_)
  have hgq : g3 0 = dy + (1 + nI a) := by rw [eg3]; show upd lq 0 (y1 + (1 + nI a)) 0 = _; rw [kv_ups, ey1]; show lq 0 + (1 + nI a) = _; rw [hI.1.2.1]
  have hyq : dy + (1 + nI a) = y5 := by rw [ey5]; exact hgq.symm
  refine lv_icmp_ne (tgt := 273) hx hb dL_law_266 (by decide) (fun c9 => absurd hyq c9) (fun _ => ?_)
  refine lv_iconst (v := 1) hx hb dL_law_269 (by decide) ?_
  refine lv_goto (tgt := 274) hx hb dL_law_270 (by decide) ?_
  refine lv_istore (lv' := [(9, .int 1), (0, .ref b), (1, .ref (ad 0)), (2, .ref (la 0)), (3, .ref (la 1)), (4, .ref (la 2)), (5, .ref (la 3)), (6, .int x6), (7, .int z), (8, .int x8)]) hx hb dL_law_274 hl (by decide) rfl (fun ls hl => ?_)
  have hI9 : kv_li lm lp lr g3 kc kh fo kl kp (dy + (1 + nI a)) n qp qm ql qv qc qe sw := ⟨⟨hI.1.1, hgq, by rw [eg3]; show upd lq 0 _ 1 = _; rw [kv_upo (by decide)]; exact hI.1.2.2.1, hI.1.2.2.2⟩, hI.2⟩
  exact hkk _ _ lm lp lr g3 kc kh ks fo kl kp (dy + (1 + nI a)) mo n pa aE qp qm ql qv qc qe mt mv sw hv tk tn sc H locs ls (by omega) (by omega) hI9 hE hP hD hS (lv_sub hl [0, 8, 1, 2, 3, 4, 5, 6, 7] rfl)

end KVLW
