section KVLW
def law_K (p : Program) (l : Launch) (en : Env) (s : State) (m : MethodId) (below : List Frame) (meth : Method) (c : Code) (D : va_G) (ci ad md : Nat → Nat) (aS aO b : Nat) (x4 : Int32) (pc cm sm : Nat) : Prop :=
  ∀ (cl sl : Nat) (kc : Nat → Int32) (kh : Nat → Int32) (ks : Nat → Int32) (fo : Nat → Nat → Int32) (kl : Nat → Int32) (kp : Nat → Int32) (dy : Int32) (mo : Int32) (n : Nat) (pa : Nat → Nat) (aE : Nat) (qp : Nat → Int32) (qm : Nat → Int32) (ql : Nat → Int32) (qv : Nat → Int32) (qc : Nat → Int32) (qe : Nat → Int32) (mt : Nat → Int32) (mv : Nat → Int32) (sw : Nat → Int32) (hv : Int32) (tk : Nat → Int32) (tn : Nat → Int32) (sc : Nat → Int32) (th : Int32) (nw : Int32) (co : Nat → Int32) (ho : Nat → Int32) (ve : Nat → Int32) (la : Nat → Int32) (pr : Nat → Int32) (rg : Int32) (rp : Nat → Int32) (rm : Nat → Int32) (rc : Nat → Int32) (re : Nat → Int32) (ro : Nat → Int32) (rl : Nat → Int32) (mcn : Nat → Int32) (mtn : Nat → Int32) (mtk : Nat → Int32) (msp : Nat → Int32) (ba : Int32) (g : Nat → Int64) (H : Heap) (locs : List Loc) (ls : Array Slot), cl ≤ cm → sl ≤ sm → kv_inv kc kh fo kl kp dy n qp qm ql qv qc qe sw nw co ho ve la pr rg rp rm rc re ro rl mtk msp → (n = 0 → aE = aS) → va_P D vwCl (((kv_kw ci ad kc kh ks fo kl kp dy mo n pa aE qp qm ql qv qc qe mt mv sw hv tk tn sc) ++ [((aO, .inl (ci 4, 1, .inr (.inl g))) : Nat × va_E)]) ++ (kv_mw ci md th nw co ho ve la pr rg rp rm rc re ro rl mcn mtn mtk msp ba)) H → va_D (fun q : Nat => s.heap.size ≤ q) (((kv_kw ci ad kc kh ks fo kl kp dy mo n pa aE qp qm ql qv qc qe mt mv sw hv tk tn sc) ++ [((aO, .inl (ci 4, 1, .inr (.inl g))) : Nat × va_E)]) ++ (kv_mw ci md th nw co ho ve la pr rg rp rm rc re ro rl mcn mtn mtk msp ba)) → va_S (fun q : Nat => s.heap.size ≤ q) s.heap H locs → lv_has ls 7 [(0, .ref b), (1, .ref (ad 0)), (2, .ref (md 0)), (3, .ref aO), (4, .int x4)] → W p l en room_1 s m #[Value.ref b] below meth c H locs cl sl (lw_Z below #[Value.ref b] s) (F0 m pc ls [])
/-- what stands through the whole law -/
def law_C (p : Program) (l : Launch) (s : State) (m : MethodId) (meth : Method) (c : Code) (D : va_G) (ci : Nat → Nat) (aS b L : Nat) (xs : Nat → Int32) : Prop :=
  lw_At p s m meth c b L xs ∧ l.stackTraces = false ∧ kv_thr (fun q : Nat => s.heap.size ≤ q) s ∧ kv_lst aS (fun q : Nat => s.heap.size ≤ q) s ∧ kv_nc s ∧ va_K D vwCl (kv_tys ci) s
theorem kv_room1 {x : Nat} (h : x ≤ 100000) : x ≤ room_1.cells := Nat.le_trans h (Nat.le_of_ble_eq_true rfl)
theorem kv_room2 {x : Nat} (h : x ≤ 1000000) : x ≤ room_1.slots := Nat.le_trans h (Nat.le_of_ble_eq_true rfl)
theorem kv_commP {D : va_G} {cl : List vw_C} {X Y : va_W} {H : Heap} (h : va_P D cl (X ++ Y) H) : va_P D cl (Y ++ X) H := kv_P_mem h fun x hx => (List.mem_append.mp hx).elim (List.mem_append_right _) (List.mem_append_left _)
theorem kv_commD {A : Nat → Prop} {X Y : va_W} (h : va_D A (X ++ Y)) : va_D A (Y ++ X) := kv_D_sub h List.perm_append_comm (List.Sublist.refl _)
theorem kv_cmp_eq (v : Int64) : lg_cmp v v = 0 := by
  unfold lg_cmp
  simp
theorem kv_ix0 {a L : Nat} (h : a < L) (hL : L ≤ 2560) : vp_in (nI a) L := vp_in_nI h (by omega)
theorem kv_ix1 {a L : Nat} (h : a + 1 < L) (hL : L ≤ 2560) : vp_in (nI a + 1) L := by rw [nI_1]; exact vp_in_nI h (by omega)
theorem kv_ix2 {a L : Nat} (h : a + 2 < L) (hL : L ≤ 2560) : vp_in (nI a + 2) L := by rw [show (2 : Int32) = nI 2 from rfl, nI_add]; exact vp_in_nI h (by omega)
theorem kv_ix3 {a L : Nat} (h : a + 3 < L) (hL : L ≤ 2560) : vp_in (nI a + 3) L := by rw [show (3 : Int32) = nI 3 from rfl, nI_add]; exact vp_in_nI h (by omega)
theorem kv_ix4 {a L : Nat} (h : a + 4 < L) (hL : L ≤ 2560) : vp_in (nI a + 4) L := by rw [show (4 : Int32) = nI 4 from rfl, nI_add]; exact vp_in_nI h (by omega)
theorem kv_exit {a L : Nat} (ha : a ≤ 2560) (hL : L ≤ 2560) : nI L - 5 < nI a ↔ L < a + 5 := by
  rw [Int32.lt_iff_toInt_lt, show (5 : Int32) = nI 5 from rfl, pk_sub_toInt (by omega) (by decide), nI_toInt (by omega)]
  omega
end KVLW

set_option maxHeartbeats 4000000 in
set_option maxRecDepth 100000 in
theorem law_c_setCores {p : Program} {l : Launch} {en : Env} {s : State} {m : MethodId} {below : List Frame} {meth : Method} {c : Code} {D : va_G} {ci ad md : Nat → Nat} {aS aO b L : Nat} {xs : Nat → Int32} (hL : L ≤ 2560) (hC : law_C p l s m meth c D ci aS b L xs) {a cl sl : Nat} (ha : a + 5 ≤ L) (hcl : cl ≤ 50000) (hsl : sl ≤ 500000) (kc : Nat → Int32) (kh : Nat → Int32) (ks : Nat → Int32) (fo : Nat → Nat → Int32) (kl : Nat → Int32) (kp : Nat → Int32) (dy : Int32) (mo : Int32) (n : Nat) (pa : Nat → Nat) (aE : Nat) (qp : Nat → Int32) (qm : Nat → Int32) (ql : Nat → Int32) (qv : Nat → Int32) (qc : Nat → Int32) (qe : Nat → Int32) (mt : Nat → Int32) (mv : Nat → Int32) (sw : Nat → Int32) (hv : Int32) (tk : Nat → Int32) (tn : Nat → Int32) (sc : Nat → Int32) (th : Int32) (nw : Int32) (co : Nat → Int32) (ho : Nat → Int32) (ve : Nat → Int32) (la : Nat → Int32) (pr : Nat → Int32) (rg : Int32) (rp : Nat → Int32) (rm : Nat → Int32) (rc : Nat → Int32) (re : Nat → Int32) (ro : Nat → Int32) (rl : Nat → Int32) (mcn : Nat → Int32) (mtn : Nat → Int32) (mtk : Nat → Int32) (msp : Nat → Int32) (ba : Int32) (g : Nat → Int64) (hI : kv_inv kc kh fo kl kp dy n qp qm ql qv qc qe sw nw co ho ve la pr rg rp rm rc re ro rl mtk msp) (hE : n = 0 → aE = aS) {H : Heap} {locs : List Loc} {ls : Array Slot} (hP : va_P D vwCl (((kv_kw ci ad kc kh ks fo kl kp dy mo n pa aE qp qm ql qv qc qe mt mv sw hv tk tn sc) ++ [((aO, .inl (ci 4, 1, .inr (.inl g))) : Nat × va_E)]) ++ (kv_mw ci md th nw co ho ve la pr rg rp rm rc re ro rl mcn mtn mtk msp ba)) H) (hD : va_D (fun q : Nat => s.heap.size ≤ q) (((kv_kw ci ad kc kh ks fo kl kp dy mo n pa aE qp qm ql qv qc qe mt mv sw hv tk tn sc) ++ [((aO, .inl (ci 4, 1, .inr (.inl g))) : Nat × va_E)]) ++ (kv_mw ci md th nw co ho ve la pr rg rp rm rc re ro rl mcn mtn mtk msp ba))) (hS : va_S (fun q : Nat => s.heap.size ≤ q) s.heap H locs) (hl : lv_has ls 7 [(0, .ref b), (1, .ref (ad 0)), (2, .ref (md 0)), (3, .ref aO), (4, .int (nI a))]) (hkk : law_K p l en s m below meth c D ci ad md aS aO b (nI a) 1454 (cl + 10) (sl + 60)) : W p l en room_1 s m #[Value.ref b] below meth c H locs cl sl (lw_Z below #[Value.ref b] s) (F0 m 140 ls []) := by
  obtain ⟨⟨hx, hb, hr, hml, hown, hts0, hX, hbl, hlocks, hgv⟩, hl9, hT, hT2, hN, hK⟩ := id hC
  have hown : s.vm.findClass RL = some m.cls := hown
  have hts := fun w h => hts0 w (wsL_law_in w h)
  have hA : ∀ q : Nat, s.heap.size ≤ q → (fun q : Nat => s.heap.size ≤ q) q := fun _ h => h
  have hbA : ¬ (fun q : Nat => s.heap.size ≤ q) b := Nat.not_le.mpr hbl
  obtain ⟨z0, z1, z2, z3, z4, z5⟩ := ag_setCores kc kh fo kl kp dy n qp qm ql qv qc qe sw th nw co ho ve la pr rg rp rm rc re ro rl mtk msp (xs (nI a + 1).toNatClampNeg) (xs (nI a + 2).toNatClampNeg) hI
  refine lv_aload_n hx hb dL_law_140 rfl (lv_at hl 1 rfl) ?_
  refine lv_aload_n hx hb dL_law_141 rfl (lv_at hl 0 rfl) ?_
  refine lv_iload hx hb dL_law_142 (lv_at hl 4 rfl) ?_
  refine lv_iconst (v := 1) hx hb dL_law_144 (by decide) ?_
  refine lv_iadd hx hb dL_law_145 ?_
  refine va_sld hx hb hX hbl hbA hS (kv_ix1 (by omega) hL) dL_law_146 ?_
  refine lv_aload_n hx hb dL_law_147 rfl (lv_at hl 0 rfl) ?_
  refine lv_iload hx hb dL_law_148 (lv_at hl 4 rfl) ?_
  refine lv_iconst (v := 2) hx hb dL_law_150 (by decide) ?_
  refine lv_iadd hx hb dL_law_151 ?_
  refine va_sld hx hb hX hbl hbA hS (kv_ix2 (by omega) hL) dL_law_152 ?_
  refine lv_aload_n hx hb dL_law_153 rfl (lv_at hl 3 rfl) ?_
  refine kv_calliF (vx_runSW (As := [.ref (ad 0), .int (xs (nI a + 1).toNatClampNeg), .int (xs (nI a + 2).toNatClampNeg), .ref aO]) (rest := []) ⟨hx, hb, hml, hown, hts⟩ (c_L_setCores l hl9 D ci ad aS kc kh ks fo kl kp dy mo n pa aE qp qm ql qv qc qe mt mv sw hv tk tn sc aO g (xs (nI a + 1).toNatClampNeg) (xs (nI a + 2).toNatClampNeg) z0 z1 H.size) (vx_cwSW 4 hts gL_law_L_setCores rfl rfl rfl (by decide +kernel) ⟨Nat.le_of_ble_eq_true rfl, Nat.le_of_ble_eq_true rfl⟩) (kv_preSW hK (kv_Pl hP) (kv_Dl hD) hT hT2 hN hS hA) rfl rfl hl.1 rfl (lv_room (Nat.le_of_ble_eq_true rfl)) dL_law_154 ⟨kv_room1 (by omega), kv_room2 (by omega)⟩) hP hD hS hA (fun r u H locs hw hP hD hS => ?_)
  obtain ⟨kc', g'⟩ := u
  have hP : va_P D vwCl (((kv_kw ci ad kc' kh ks fo kl kp dy mo n pa aE qp qm ql qv qc qe mt mv sw hv tk tn sc) ++ [((aO, .inl (ci 4, 1, .inr (.inl g'))) : Nat × va_E)]) ++ (kv_mw ci md th nw co ho ve la pr rg rp rm rc re ro rl mcn mtn mtk msp ba)) H := hP
  have hD : va_D (fun q : Nat => s.heap.size ≤ q) (((kv_kw ci ad kc' kh ks fo kl kp dy mo n pa aE qp qm ql qv qc qe mt mv sw hv tk tn sc) ++ [((aO, .inl (ci 4, 1, .inr (.inl g'))) : Nat × va_E)]) ++ (kv_mw ci md th nw co ho ve la pr rg rp rm rc re ro rl mcn mtn mtk msp ba)) := hD
  refine lv_istore (lv' := [(5, .int r), (0, .ref b), (1, .ref (ad 0)), (2, .ref (md 0)), (3, .ref aO), (4, .int (nI a))]) hx hb dL_law_157 hl (by decide) rfl (fun ls hl => ?_)
  refine lv_aload_n hx hb dL_law_159 rfl (lv_at hl 3 rfl) ?_
  refine lv_aload_n hx hb dL_law_160 rfl (lv_at hl 1 rfl) ?_
  refine lv_iload hx hb dL_law_161 (lv_at hl 5 rfl) ?_
  refine lv_iconst (v := 1) hx hb dL_law_163 (by decide) ?_
  refine lv_iadd hx hb dL_law_164 ?_
  refine va_sld hx hb hX hbl hbA hS (kv_ix1 (by omega) hL) dL_law_165 ?_
  refine lv_aload_n hx hb dL_law_166 rfl (lv_at hl 1 rfl) ?_
  refine lv_iload hx hb dL_law_167 (lv_at hl 5 rfl) ?_
  refine lv_iconst (v := 2) hx hb dL_law_169 (by decide) ?_
  refine lv_iadd hx hb dL_law_170 ?_
  refine va_sld hx hb hX hbl hbA hS (kv_ix2 (by omega) hL) dL_law_171 ?_
  have hP : va_P D vwCl ((kv_mw ci md th nw co ho ve la pr rg rp rm rc re ro rl mcn mtn mtk msp ba) ++ ((kv_kw ci ad kc' kh ks fo kl kp dy mo n pa aE qp qm ql qv qc qe mt mv sw hv tk tn sc) ++ [((aO, .inl (ci 4, 1, .inr (.inl g'))) : Nat × va_E)])) H := kv_commP hP
  have hD : va_D (fun q : Nat => s.heap.size ≤ q) ((kv_mw ci md th nw co ho ve la pr rg rp rm rc re ro rl mcn mtn mtk msp ba) ++ ((kv_kw ci ad kc' kh ks fo kl kp dy mo n pa aE qp qm ql qv qc qe mt mv sw hv tk tn sc) ++ [((aO, .inl (ci 4, 1, .inr (.inl g'))) : Nat × va_E)])) := kv_commD hD
  refine kv_calliF (va_runV (As := [.int (xs (nI a + 1).toNatClampNeg), .int (xs (nI a + 2).toNatClampNeg)]) (rest := []) ⟨hx, hb, hml, hown, hts⟩ (c_X3_setCores l D ci md th nw co ho ve la pr rg rp rm rc re ro rl mcn mtn mtk msp ba (xs (nI a + 1).toNatClampNeg) (xs (nI a + 2).toNatClampNeg) z2 H.size) (cwV 2 hts gL_law_X3_setCores rfl rfl rfl (by decide +kernel) ⟨Nat.le_of_ble_eq_true rfl, Nat.le_of_ble_eq_true rfl⟩) (kv_preV hK (kv_Pl hP) (kv_Dl hD) (r := (RX3, TX3, 19)) (q0 := 0) (k := 4) rfl rfl rfl) rfl rfl hl.1 rfl (lv_room (Nat.le_of_ble_eq_true rfl)) dL_law_172 ⟨kv_room1 (by omega), kv_room2 (by omega)⟩) hP hD hS hA (fun b9 u H locs hwM hP hD hS => ?_)
  obtain ⟨th', co'⟩ := u
  have hP : va_P D vwCl ((kv_mw ci md th' nw co' ho ve la pr rg rp rm rc re ro rl mcn mtn mtk msp ba) ++ ((kv_kw ci ad kc' kh ks fo kl kp dy mo n pa aE qp qm ql qv qc qe mt mv sw hv tk tn sc) ++ [((aO, .inl (ci 4, 1, .inr (.inl g'))) : Nat × va_E)])) H := hP
  have hD : va_D (fun q : Nat => s.heap.size ≤ q) ((kv_mw ci md th' nw co' ho ve la pr rg rp rm rc re ro rl mcn mtn mtk msp ba) ++ ((kv_kw ci ad kc' kh ks fo kl kp dy mo n pa aE qp qm ql qv qc qe mt mv sw hv tk tn sc) ++ [((aO, .inl (ci 4, 1, .inr (.inl g'))) : Nat × va_E)])) := hD
  refine lv_istore (lv' := [(6, .int b9), (5, .int r), (0, .ref b), (1, .ref (ad 0)), (2, .ref (md 0)), (3, .ref aO), (4, .int (nI a))]) hx hb dL_law_175 hl (by decide) rfl (fun ls hl => ?_)
  refine lv_aload_n hx hb dL_law_177 rfl (lv_at hl 4 rfl) ?_
  refine kv_calliF (va_runV (As := []) (rest := []) ⟨hx, hb, hml, hown, hts⟩ (c_X3_thrown l D ci md th' nw co' ho ve la pr rg rp rm rc re ro rl mcn mtn mtk msp ba (by unfold pf_X3_thrown; exact fun h => nomatch h) H.size) (cwV 0 hts gL_law_X3_thrown rfl rfl rfl (by decide +kernel) ⟨Nat.le_of_ble_eq_true rfl, Nat.le_of_ble_eq_true rfl⟩) (kv_preV hK (kv_Pl hP) (kv_Dl hD) (r := (RX3, TX3, 19)) (q0 := 0) (k := 4) rfl rfl rfl) rfl rfl hl.1 rfl (lv_room (Nat.le_of_ble_eq_true rfl)) dL_law_178 ⟨kv_room1 (by omega), kv_room2 (by omega)⟩) hP hD hS hA (fun t9 u9 H locs hwT hP hD hS => ?_)
  have ht9 : t9 = th' := (Option.some.inj (show some th' = some t9 from hwT)).symm
  rw [ht9]
  have hP : va_P D vwCl (((kv_kw ci ad kc' kh ks fo kl kp dy mo n pa aE qp qm ql qv qc qe mt mv sw hv tk tn sc) ++ [((aO, .inl (ci 4, 1, .inr (.inl g'))) : Nat × va_E)]) ++ (kv_mw ci md th' nw co' ho ve la pr rg rp rm rc re ro rl mcn mtn mtk msp ba)) H := kv_commP hP
  have hD : va_D (fun q : Nat => s.heap.size ≤ q) (((kv_kw ci ad kc' kh ks fo kl kp dy mo n pa aE qp qm ql qv qc qe mt mv sw hv tk tn sc) ++ [((aO, .inl (ci 4, 1, .inr (.inl g'))) : Nat × va_E)]) ++ (kv_mw ci md th' nw co' ho ve la pr rg rp rm rc re ro rl mcn mtn mtk msp ba)) := kv_commD hD
  refine lv_iload hx hb dL_law_181 (lv_at hl 1 rfl) ?_
  rcases hw with ⟨v, hv1, hr0, hg⟩ | ⟨hv1, hr0, hs⟩ | ⟨hv1, hr0, hs⟩
  · obtain ⟨y1, y2, y3⟩ := z3 v kc' b9 th' co' hv1 hwM
    refine lv_icmp_eq (tgt := 188) hx hb dL_law_183 (by decide) (fun _ => ?_) (fun c9 => absurd (y1.trans hr0.symm) c9)
    refine lv_iload hx hb dL_law_188 (lv_at hl 1 rfl) ?_
    refine lv_if_ne (tgt := 205) hx hb dL_law_190 (by decide) (fun c9 => absurd hr0 c9) (fun _ => ?_)
    refine lv_aload_n hx hb dL_law_193 rfl (lv_at hl 5 rfl) ?_
    refine lv_iconst (v := 0) hx hb dL_law_194 (by decide) ?_
    refine va_lald hx hb hK (kv_Pl hP) (kv_kw ci ad kc' kh ks fo kl kp dy mo n pa aE qp qm ql qv qc qe mt mv sw hv tk tn sc).length 4 kv_last rfl (by unfold vp_in; decide) dL_law_195 ?_
    refine lv_iload hx hb dL_law_196 (lv_at hl 0 rfl) ?_
    refine lv_i2l (v := b9.toInt64) hx hb dL_law_198 rfl ?_
    refine W.lcmp hx hb dL_law_199 ?_
    rw [show g' (0 : Int32).toNatClampNeg = b9.toInt64 from by rw [← y2, show g' = vp_updL g 0 v.toInt64 from hg]; rfl, kv_cmp_eq]
    refine lv_if_eq (tgt := 205) hx hb dL_law_200 (by decide) (fun _ => ?_) (fun c9 => absurd rfl c9)
    refine lv_goto (tgt := 1454) hx hb dL_law_205 (by decide) ?_
    exact hkk _ _ kc' kh ks fo kl kp dy mo n pa aE qp qm ql qv qc qe mt mv sw hv tk tn sc th' nw co' ho ve la pr rg rp rm rc re ro rl mcn mtn mtk msp ba g' H locs ls (by omega) (by omega) y3 hE hP hD hS (lv_sub hl [2, 3, 4, 5, 6] rfl)
  · obtain ⟨y1, y2⟩ := z4 b9 th' co' hv1 hwM
    obtain ⟨w0, w1⟩ := hs
    have hP : va_P D vwCl (((kv_kw ci ad kc kh ks fo kl kp dy mo n pa aE qp qm ql qv qc qe mt mv sw hv tk tn sc) ++ [((aO, .inl (ci 4, 1, .inr (.inl g'))) : Nat × va_E)]) ++ (kv_mw ci md th' nw co' ho ve la pr rg rp rm rc re ro rl mcn mtn mtk msp ba)) H := by rw [← show kc' = kc from w0]; exact hP
    have hD : va_D (fun q : Nat => s.heap.size ≤ q) (((kv_kw ci ad kc kh ks fo kl kp dy mo n pa aE qp qm ql qv qc qe mt mv sw hv tk tn sc) ++ [((aO, .inl (ci 4, 1, .inr (.inl g'))) : Nat × va_E)]) ++ (kv_mw ci md th' nw co' ho ve la pr rg rp rm rc re ro rl mcn mtn mtk msp ba)) := by rw [← show kc' = kc from w0]; exact hD
    refine lv_icmp_eq (tgt := 188) hx hb dL_law_183 (by decide) (fun _ => ?_) (fun c9 => absurd (y1.trans hr0.symm) c9)
    refine lv_iload hx hb dL_law_188 (lv_at hl 1 rfl) ?_
    refine lv_if_ne (tgt := 205) hx hb dL_law_190 (by decide) (fun _ => ?_) (fun c9 => absurd c9 (by rw [hr0]; decide))
    refine lv_goto (tgt := 1454) hx hb dL_law_205 (by decide) ?_
    exact hkk _ _ kc kh ks fo kl kp dy mo n pa aE qp qm ql qv qc qe mt mv sw hv tk tn sc th' nw co' ho ve la pr rg rp rm rc re ro rl mcn mtn mtk msp ba g' H locs ls (by omega) (by omega) y2 hE hP hD hS (lv_sub hl [2, 3, 4, 5, 6] rfl)
  · obtain ⟨y1, y2⟩ := z5 b9 th' co' hv1 hwM
    obtain ⟨w0, w1⟩ := hs
    have hP : va_P D vwCl (((kv_kw ci ad kc kh ks fo kl kp dy mo n pa aE qp qm ql qv qc qe mt mv sw hv tk tn sc) ++ [((aO, .inl (ci 4, 1, .inr (.inl g'))) : Nat × va_E)]) ++ (kv_mw ci md th' nw co' ho ve la pr rg rp rm rc re ro rl mcn mtn mtk msp ba)) H := by rw [← show kc' = kc from w0]; exact hP
    have hD : va_D (fun q : Nat => s.heap.size ≤ q) (((kv_kw ci ad kc kh ks fo kl kp dy mo n pa aE qp qm ql qv qc qe mt mv sw hv tk tn sc) ++ [((aO, .inl (ci 4, 1, .inr (.inl g'))) : Nat × va_E)]) ++ (kv_mw ci md th' nw co' ho ve la pr rg rp rm rc re ro rl mcn mtn mtk msp ba)) := by rw [← show kc' = kc from w0]; exact hD
    refine lv_icmp_eq (tgt := 188) hx hb dL_law_183 (by decide) (fun _ => ?_) (fun c9 => absurd (y1.trans hr0.symm) c9)
    refine lv_iload hx hb dL_law_188 (lv_at hl 1 rfl) ?_
    refine lv_if_ne (tgt := 205) hx hb dL_law_190 (by decide) (fun _ => ?_) (fun c9 => absurd c9 (by rw [hr0]; decide))
    refine lv_goto (tgt := 1454) hx hb dL_law_205 (by decide) ?_
    exact hkk _ _ kc kh ks fo kl kp dy mo n pa aE qp qm ql qv qc qe mt mv sw hv tk tn sc th' nw co' ho ve la pr rg rp rm rc re ro rl mcn mtn mtk msp ba g' H locs ls (by omega) (by omega) y2 hE hP hD hS (lv_sub hl [2, 3, 4, 5, 6] rfl)

set_option maxHeartbeats 4000000 in
set_option maxRecDepth 100000 in
theorem law_c_move {p : Program} {l : Launch} {en : Env} {s : State} {m : MethodId} {below : List Frame} {meth : Method} {c : Code} {D : va_G} {ci ad md : Nat → Nat} {aS aO b L : Nat} {xs : Nat → Int32} (hL : L ≤ 2560) (hC : law_C p l s m meth c D ci aS b L xs) {a cl sl : Nat} (ha : a + 5 ≤ L) (hcl : cl ≤ 50000) (hsl : sl ≤ 500000) (kc : Nat → Int32) (kh : Nat → Int32) (ks : Nat → Int32) (fo : Nat → Nat → Int32) (kl : Nat → Int32) (kp : Nat → Int32) (dy : Int32) (mo : Int32) (n : Nat) (pa : Nat → Nat) (aE : Nat) (qp : Nat → Int32) (qm : Nat → Int32) (ql : Nat → Int32) (qv : Nat → Int32) (qc : Nat → Int32) (qe : Nat → Int32) (mt : Nat → Int32) (mv : Nat → Int32) (sw : Nat → Int32) (hv : Int32) (tk : Nat → Int32) (tn : Nat → Int32) (sc : Nat → Int32) (th : Int32) (nw : Int32) (co : Nat → Int32) (ho : Nat → Int32) (ve : Nat → Int32) (la : Nat → Int32) (pr : Nat → Int32) (rg : Int32) (rp : Nat → Int32) (rm : Nat → Int32) (rc : Nat → Int32) (re : Nat → Int32) (ro : Nat → Int32) (rl : Nat → Int32) (mcn : Nat → Int32) (mtn : Nat → Int32) (mtk : Nat → Int32) (msp : Nat → Int32) (ba : Int32) (g : Nat → Int64) (hI : kv_inv kc kh fo kl kp dy n qp qm ql qv qc qe sw nw co ho ve la pr rg rp rm rc re ro rl mtk msp) (hE : n = 0 → aE = aS) {H : Heap} {locs : List Loc} {ls : Array Slot} (hP : va_P D vwCl (((kv_kw ci ad kc kh ks fo kl kp dy mo n pa aE qp qm ql qv qc qe mt mv sw hv tk tn sc) ++ [((aO, .inl (ci 4, 1, .inr (.inl g))) : Nat × va_E)]) ++ (kv_mw ci md th nw co ho ve la pr rg rp rm rc re ro rl mcn mtn mtk msp ba)) H) (hD : va_D (fun q : Nat => s.heap.size ≤ q) (((kv_kw ci ad kc kh ks fo kl kp dy mo n pa aE qp qm ql qv qc qe mt mv sw hv tk tn sc) ++ [((aO, .inl (ci 4, 1, .inr (.inl g))) : Nat × va_E)]) ++ (kv_mw ci md th nw co ho ve la pr rg rp rm rc re ro rl mcn mtn mtk msp ba))) (hS : va_S (fun q : Nat => s.heap.size ≤ q) s.heap H locs) (hl : lv_has ls 7 [(0, .ref b), (1, .ref (ad 0)), (2, .ref (md 0)), (3, .ref aO), (4, .int (nI a))]) (hkk : law_K p l en s m below meth c D ci ad md aS aO b (nI a) 1454 (cl + 10) (sl + 60)) : W p l en room_1 s m #[Value.ref b] below meth c H locs cl sl (lw_Z below #[Value.ref b] s) (F0 m 208 ls []) := by
  obtain ⟨⟨hx, hb, hr, hml, hown, hts0, hX, hbl, hlocks, hgv⟩, hl9, hT, hT2, hN, hK⟩ := id hC
  have hown : s.vm.findClass RL = some m.cls := hown
  have hts := fun w h => hts0 w (wsL_law_in w h)
  have hA : ∀ q : Nat, s.heap.size ≤ q → (fun q : Nat => s.heap.size ≤ q) q := fun _ h => h
  have hbA : ¬ (fun q : Nat => s.heap.size ≤ q) b := Nat.not_le.mpr hbl
  obtain ⟨z0, z1, z2, z3, z4, z5, z6⟩ := ag_move kc kh fo kl kp dy n qp qm ql qv qc qe sw th nw co ho ve la pr rg rp rm rc re ro rl mtk msp (xs (nI a + 1).toNatClampNeg) (xs (nI a + 2).toNatClampNeg) hI
  refine lv_aload_n hx hb dL_law_208 rfl (lv_at hl 1 rfl) ?_
  refine lv_aload_n hx hb dL_law_209 rfl (lv_at hl 0 rfl) ?_
  refine lv_iload hx hb dL_law_210 (lv_at hl 4 rfl) ?_
  refine lv_iconst (v := 1) hx hb dL_law_212 (by decide) ?_
  refine lv_iadd hx hb dL_law_213 ?_
  refine va_sld hx hb hX hbl hbA hS (kv_ix1 (by omega) hL) dL_law_214 ?_
  refine lv_aload_n hx hb dL_law_215 rfl (lv_at hl 0 rfl) ?_
  refine lv_iload hx hb dL_law_216 (lv_at hl 4 rfl) ?_
  refine lv_iconst (v := 2) hx hb dL_law_218 (by decide) ?_
  refine lv_iadd hx hb dL_law_219 ?_
  refine va_sld hx hb hX hbl hbA hS (kv_ix2 (by omega) hL) dL_law_220 ?_
  refine lv_aload_n hx hb dL_law_221 rfl (lv_at hl 3 rfl) ?_
  refine kv_calliF (vx_runSW (As := [.ref (ad 0), .int (xs (nI a + 1).toNatClampNeg), .int (xs (nI a + 2).toNatClampNeg), .ref aO]) (rest := []) ⟨hx, hb, hml, hown, hts⟩ (c_L_move l hl9 D ci ad aS kc kh ks fo kl kp dy mo n pa aE qp qm ql qv qc qe mt mv sw hv tk tn sc aO g (xs (nI a + 1).toNatClampNeg) (xs (nI a + 2).toNatClampNeg) z0 z1 H.size) (vx_cwSW 4 hts gL_law_L_move rfl rfl rfl (by decide +kernel) ⟨Nat.le_of_ble_eq_true rfl, Nat.le_of_ble_eq_true rfl⟩) (kv_preSW hK (kv_Pl hP) (kv_Dl hD) hT hT2 hN hS hA) rfl rfl hl.1 rfl (lv_room (Nat.le_of_ble_eq_true rfl)) dL_law_222 ⟨kv_room1 (by omega), kv_room2 (by omega)⟩) hP hD hS hA (fun r u H locs hw hP hD hS => ?_)
  obtain ⟨kh', g'⟩ := u
  have hP : va_P D vwCl (((kv_kw ci ad kc kh' ks fo kl kp dy mo n pa aE qp qm ql qv qc qe mt mv sw hv tk tn sc) ++ [((aO, .inl (ci 4, 1, .inr (.inl g'))) : Nat × va_E)]) ++ (kv_mw ci md th nw co ho ve la pr rg rp rm rc re ro rl mcn mtn mtk msp ba)) H := hP
  have hD : va_D (fun q : Nat => s.heap.size ≤ q) (((kv_kw ci ad kc kh' ks fo kl kp dy mo n pa aE qp qm ql qv qc qe mt mv sw hv tk tn sc) ++ [((aO, .inl (ci 4, 1, .inr (.inl g'))) : Nat × va_E)]) ++ (kv_mw ci md th nw co ho ve la pr rg rp rm rc re ro rl mcn mtn mtk msp ba)) := hD
  refine lv_istore (lv' := [(5, .int r), (0, .ref b), (1, .ref (ad 0)), (2, .ref (md 0)), (3, .ref aO), (4, .int (nI a))]) hx hb dL_law_225 hl (by decide) rfl (fun ls hl => ?_)
  refine lv_aload_n hx hb dL_law_227 rfl (lv_at hl 3 rfl) ?_
  refine lv_aload_n hx hb dL_law_228 rfl (lv_at hl 1 rfl) ?_
  refine lv_iload hx hb dL_law_229 (lv_at hl 5 rfl) ?_
  refine lv_iconst (v := 1) hx hb dL_law_231 (by decide) ?_
  refine lv_iadd hx hb dL_law_232 ?_
  refine va_sld hx hb hX hbl hbA hS (kv_ix1 (by omega) hL) dL_law_233 ?_
  refine lv_aload_n hx hb dL_law_234 rfl (lv_at hl 1 rfl) ?_
  refine lv_iload hx hb dL_law_235 (lv_at hl 5 rfl) ?_
  refine lv_iconst (v := 2) hx hb dL_law_237 (by decide) ?_
  refine lv_iadd hx hb dL_law_238 ?_
  refine va_sld hx hb hX hbl hbA hS (kv_ix2 (by omega) hL) dL_law_239 ?_
  have hP : va_P D vwCl ((kv_mw ci md th nw co ho ve la pr rg rp rm rc re ro rl mcn mtn mtk msp ba) ++ ((kv_kw ci ad kc kh' ks fo kl kp dy mo n pa aE qp qm ql qv qc qe mt mv sw hv tk tn sc) ++ [((aO, .inl (ci 4, 1, .inr (.inl g'))) : Nat × va_E)])) H := kv_commP hP
  have hD : va_D (fun q : Nat => s.heap.size ≤ q) ((kv_mw ci md th nw co ho ve la pr rg rp rm rc re ro rl mcn mtn mtk msp ba) ++ ((kv_kw ci ad kc kh' ks fo kl kp dy mo n pa aE qp qm ql qv qc qe mt mv sw hv tk tn sc) ++ [((aO, .inl (ci 4, 1, .inr (.inl g'))) : Nat × va_E)])) := kv_commD hD
  refine kv_calliF (va_runV (As := [.int (xs (nI a + 1).toNatClampNeg), .int (xs (nI a + 2).toNatClampNeg)]) (rest := []) ⟨hx, hb, hml, hown, hts⟩ (c_X3_move l D ci md th nw co ho ve la pr rg rp rm rc re ro rl mcn mtn mtk msp ba (xs (nI a + 1).toNatClampNeg) (xs (nI a + 2).toNatClampNeg) z2 H.size) (cwV 2 hts gL_law_X3_move rfl rfl rfl (by decide +kernel) ⟨Nat.le_of_ble_eq_true rfl, Nat.le_of_ble_eq_true rfl⟩) (kv_preV hK (kv_Pl hP) (kv_Dl hD) (r := (RX3, TX3, 19)) (q0 := 0) (k := 4) rfl rfl rfl) rfl rfl hl.1 rfl (lv_room (Nat.le_of_ble_eq_true rfl)) dL_law_240 ⟨kv_room1 (by omega), kv_room2 (by omega)⟩) hP hD hS hA (fun b9 u H locs hwM hP hD hS => ?_)
  obtain ⟨th', ho'⟩ := u
  have hP : va_P D vwCl ((kv_mw ci md th' nw co ho' ve la pr rg rp rm rc re ro rl mcn mtn mtk msp ba) ++ ((kv_kw ci ad kc kh' ks fo kl kp dy mo n pa aE qp qm ql qv qc qe mt mv sw hv tk tn sc) ++ [((aO, .inl (ci 4, 1, .inr (.inl g'))) : Nat × va_E)])) H := hP
  have hD : va_D (fun q : Nat => s.heap.size ≤ q) ((kv_mw ci md th' nw co ho' ve la pr rg rp rm rc re ro rl mcn mtn mtk msp ba) ++ ((kv_kw ci ad kc kh' ks fo kl kp dy mo n pa aE qp qm ql qv qc qe mt mv sw hv tk tn sc) ++ [((aO, .inl (ci 4, 1, .inr (.inl g'))) : Nat × va_E)])) := hD
  refine lv_istore (lv' := [(6, .int b9), (5, .int r), (0, .ref b), (1, .ref (ad 0)), (2, .ref (md 0)), (3, .ref aO), (4, .int (nI a))]) hx hb dL_law_243 hl (by decide) rfl (fun ls hl => ?_)
  refine lv_aload_n hx hb dL_law_245 rfl (lv_at hl 4 rfl) ?_
  refine kv_calliF (va_runV (As := []) (rest := []) ⟨hx, hb, hml, hown, hts⟩ (c_X3_thrown l D ci md th' nw co ho' ve la pr rg rp rm rc re ro rl mcn mtn mtk msp ba (by unfold pf_X3_thrown; exact fun h => nomatch h) H.size) (cwV 0 hts gL_law_X3_thrown rfl rfl rfl (by decide +kernel) ⟨Nat.le_of_ble_eq_true rfl, Nat.le_of_ble_eq_true rfl⟩) (kv_preV hK (kv_Pl hP) (kv_Dl hD) (r := (RX3, TX3, 19)) (q0 := 0) (k := 4) rfl rfl rfl) rfl rfl hl.1 rfl (lv_room (Nat.le_of_ble_eq_true rfl)) dL_law_246 ⟨kv_room1 (by omega), kv_room2 (by omega)⟩) hP hD hS hA (fun t9 u9 H locs hwT hP hD hS => ?_)
  have ht9 : t9 = th' := (Option.some.inj (show some th' = some t9 from hwT)).symm
  rw [ht9]
  have hP : va_P D vwCl (((kv_kw ci ad kc kh' ks fo kl kp dy mo n pa aE qp qm ql qv qc qe mt mv sw hv tk tn sc) ++ [((aO, .inl (ci 4, 1, .inr (.inl g'))) : Nat × va_E)]) ++ (kv_mw ci md th' nw co ho' ve la pr rg rp rm rc re ro rl mcn mtn mtk msp ba)) H := kv_commP hP
  have hD : va_D (fun q : Nat => s.heap.size ≤ q) (((kv_kw ci ad kc kh' ks fo kl kp dy mo n pa aE qp qm ql qv qc qe mt mv sw hv tk tn sc) ++ [((aO, .inl (ci 4, 1, .inr (.inl g'))) : Nat × va_E)]) ++ (kv_mw ci md th' nw co ho' ve la pr rg rp rm rc re ro rl mcn mtn mtk msp ba)) := kv_commD hD
  refine lv_iload hx hb dL_law_249 (lv_at hl 1 rfl) ?_
  rcases hw with ⟨v, hv1, hr0, hg⟩ | ⟨hv1, hr0, hs⟩ | ⟨hv1, hr0, hs⟩ | ⟨hv1, hr0, hs⟩
  · obtain ⟨y1, y2, y3⟩ := z3 v kh' b9 th' ho' hv1 hwM
    refine lv_icmp_eq (tgt := 256) hx hb dL_law_251 (by decide) (fun _ => ?_) (fun c9 => absurd (y1.trans hr0.symm) c9)
    refine lv_iload hx hb dL_law_256 (lv_at hl 1 rfl) ?_
    refine lv_if_ne (tgt := 273) hx hb dL_law_258 (by decide) (fun c9 => absurd hr0 c9) (fun _ => ?_)
    refine lv_aload_n hx hb dL_law_261 rfl (lv_at hl 5 rfl) ?_
    refine lv_iconst (v := 0) hx hb dL_law_262 (by decide) ?_
    refine va_lald hx hb hK (kv_Pl hP) (kv_kw ci ad kc kh' ks fo kl kp dy mo n pa aE qp qm ql qv qc qe mt mv sw hv tk tn sc).length 4 kv_last rfl (by unfold vp_in; decide) dL_law_263 ?_
    refine lv_iload hx hb dL_law_264 (lv_at hl 0 rfl) ?_
    refine lv_i2l (v := b9.toInt64) hx hb dL_law_266 rfl ?_
    refine W.lcmp hx hb dL_law_267 ?_
    rw [show g' (0 : Int32).toNatClampNeg = b9.toInt64 from by rw [← y2, show g' = vp_updL g 0 v.toInt64 from hg]; rfl, kv_cmp_eq]
    refine lv_if_eq (tgt := 273) hx hb dL_law_268 (by decide) (fun _ => ?_) (fun c9 => absurd rfl c9)
    refine lv_goto (tgt := 1454) hx hb dL_law_273 (by decide) ?_
    exact hkk _ _ kc kh' ks fo kl kp dy mo n pa aE qp qm ql qv qc qe mt mv sw hv tk tn sc th' nw co ho' ve la pr rg rp rm rc re ro rl mcn mtn mtk msp ba g' H locs ls (by omega) (by omega) y3 hE hP hD hS (lv_sub hl [2, 3, 4, 5, 6] rfl)
  · obtain ⟨y1, y2⟩ := z4 b9 th' ho' hv1 hwM
    obtain ⟨w0, w1⟩ := hs
    have hP : va_P D vwCl (((kv_kw ci ad kc kh ks fo kl kp dy mo n pa aE qp qm ql qv qc qe mt mv sw hv tk tn sc) ++ [((aO, .inl (ci 4, 1, .inr (.inl g'))) : Nat × va_E)]) ++ (kv_mw ci md th' nw co ho' ve la pr rg rp rm rc re ro rl mcn mtn mtk msp ba)) H := by rw [← show kh' = kh from w0]; exact hP
    have hD : va_D (fun q : Nat => s.heap.size ≤ q) (((kv_kw ci ad kc kh ks fo kl kp dy mo n pa aE qp qm ql qv qc qe mt mv sw hv tk tn sc) ++ [((aO, .inl (ci 4, 1, .inr (.inl g'))) : Nat × va_E)]) ++ (kv_mw ci md th' nw co ho' ve la pr rg rp rm rc re ro rl mcn mtn mtk msp ba)) := by rw [← show kh' = kh from w0]; exact hD
    refine lv_icmp_eq (tgt := 256) hx hb dL_law_251 (by decide) (fun _ => ?_) (fun c9 => absurd (y1.trans hr0.symm) c9)
    refine lv_iload hx hb dL_law_256 (lv_at hl 1 rfl) ?_
    refine lv_if_ne (tgt := 273) hx hb dL_law_258 (by decide) (fun _ => ?_) (fun c9 => absurd c9 (by rw [hr0]; decide))
    refine lv_goto (tgt := 1454) hx hb dL_law_273 (by decide) ?_
    exact hkk _ _ kc kh ks fo kl kp dy mo n pa aE qp qm ql qv qc qe mt mv sw hv tk tn sc th' nw co ho' ve la pr rg rp rm rc re ro rl mcn mtn mtk msp ba g' H locs ls (by omega) (by omega) y2 hE hP hD hS (lv_sub hl [2, 3, 4, 5, 6] rfl)
  · obtain ⟨y1, y2⟩ := z5 b9 th' ho' hv1 hwM
    obtain ⟨w0, w1⟩ := hs
    have hP : va_P D vwCl (((kv_kw ci ad kc kh ks fo kl kp dy mo n pa aE qp qm ql qv qc qe mt mv sw hv tk tn sc) ++ [((aO, .inl (ci 4, 1, .inr (.inl g'))) : Nat × va_E)]) ++ (kv_mw ci md th' nw co ho' ve la pr rg rp rm rc re ro rl mcn mtn mtk msp ba)) H := by rw [← show kh' = kh from w0]; exact hP
    have hD : va_D (fun q : Nat => s.heap.size ≤ q) (((kv_kw ci ad kc kh ks fo kl kp dy mo n pa aE qp qm ql qv qc qe mt mv sw hv tk tn sc) ++ [((aO, .inl (ci 4, 1, .inr (.inl g'))) : Nat × va_E)]) ++ (kv_mw ci md th' nw co ho' ve la pr rg rp rm rc re ro rl mcn mtn mtk msp ba)) := by rw [← show kh' = kh from w0]; exact hD
    refine lv_icmp_eq (tgt := 256) hx hb dL_law_251 (by decide) (fun _ => ?_) (fun c9 => absurd (y1.trans hr0.symm) c9)
    refine lv_iload hx hb dL_law_256 (lv_at hl 1 rfl) ?_
    refine lv_if_ne (tgt := 273) hx hb dL_law_258 (by decide) (fun _ => ?_) (fun c9 => absurd c9 (by rw [hr0]; decide))
    refine lv_goto (tgt := 1454) hx hb dL_law_273 (by decide) ?_
    exact hkk _ _ kc kh ks fo kl kp dy mo n pa aE qp qm ql qv qc qe mt mv sw hv tk tn sc th' nw co ho' ve la pr rg rp rm rc re ro rl mcn mtn mtk msp ba g' H locs ls (by omega) (by omega) y2 hE hP hD hS (lv_sub hl [2, 3, 4, 5, 6] rfl)
  · obtain ⟨y1, y2⟩ := z6 b9 th' ho' hv1 hwM
    obtain ⟨w0, w1⟩ := hs
    have hP : va_P D vwCl (((kv_kw ci ad kc kh ks fo kl kp dy mo n pa aE qp qm ql qv qc qe mt mv sw hv tk tn sc) ++ [((aO, .inl (ci 4, 1, .inr (.inl g'))) : Nat × va_E)]) ++ (kv_mw ci md th' nw co ho' ve la pr rg rp rm rc re ro rl mcn mtn mtk msp ba)) H := by rw [← show kh' = kh from w0]; exact hP
    have hD : va_D (fun q : Nat => s.heap.size ≤ q) (((kv_kw ci ad kc kh ks fo kl kp dy mo n pa aE qp qm ql qv qc qe mt mv sw hv tk tn sc) ++ [((aO, .inl (ci 4, 1, .inr (.inl g'))) : Nat × va_E)]) ++ (kv_mw ci md th' nw co ho' ve la pr rg rp rm rc re ro rl mcn mtn mtk msp ba)) := by rw [← show kh' = kh from w0]; exact hD
    refine lv_icmp_eq (tgt := 256) hx hb dL_law_251 (by decide) (fun _ => ?_) (fun c9 => absurd (y1.trans hr0.symm) c9)
    refine lv_iload hx hb dL_law_256 (lv_at hl 1 rfl) ?_
    refine lv_if_ne (tgt := 273) hx hb dL_law_258 (by decide) (fun _ => ?_) (fun c9 => absurd c9 (by rw [hr0]; decide))
    refine lv_goto (tgt := 1454) hx hb dL_law_273 (by decide) ?_
    exact hkk _ _ kc kh ks fo kl kp dy mo n pa aE qp qm ql qv qc qe mt mv sw hv tk tn sc th' nw co ho' ve la pr rg rp rm rc re ro rl mcn mtn mtk msp ba g' H locs ls (by omega) (by omega) y2 hE hP hD hS (lv_sub hl [2, 3, 4, 5, 6] rfl)

set_option maxHeartbeats 4000000 in
set_option maxRecDepth 100000 in
theorem law_c_find {p : Program} {l : Launch} {en : Env} {s : State} {m : MethodId} {below : List Frame} {meth : Method} {c : Code} {D : va_G} {ci ad md : Nat → Nat} {aS aO b L : Nat} {xs : Nat → Int32} (hL : L ≤ 2560) (hC : law_C p l s m meth c D ci aS b L xs) {a cl sl : Nat} (ha : a + 5 ≤ L) (hcl : cl ≤ 50000) (hsl : sl ≤ 500000) (kc : Nat → Int32) (kh : Nat → Int32) (ks : Nat → Int32) (fo : Nat → Nat → Int32) (kl : Nat → Int32) (kp : Nat → Int32) (dy : Int32) (mo : Int32) (n : Nat) (pa : Nat → Nat) (aE : Nat) (qp : Nat → Int32) (qm : Nat → Int32) (ql : Nat → Int32) (qv : Nat → Int32) (qc : Nat → Int32) (qe : Nat → Int32) (mt : Nat → Int32) (mv : Nat → Int32) (sw : Nat → Int32) (hv : Int32) (tk : Nat → Int32) (tn : Nat → Int32) (sc : Nat → Int32) (th : Int32) (nw : Int32) (co : Nat → Int32) (ho : Nat → Int32) (ve : Nat → Int32) (la : Nat → Int32) (pr : Nat → Int32) (rg : Int32) (rp : Nat → Int32) (rm : Nat → Int32) (rc : Nat → Int32) (re : Nat → Int32) (ro : Nat → Int32) (rl : Nat → Int32) (mcn : Nat → Int32) (mtn : Nat → Int32) (mtk : Nat → Int32) (msp : Nat → Int32) (ba : Int32) (g : Nat → Int64) (hI : kv_inv kc kh fo kl kp dy n qp qm ql qv qc qe sw nw co ho ve la pr rg rp rm rc re ro rl mtk msp) (hE : n = 0 → aE = aS) {H : Heap} {locs : List Loc} {ls : Array Slot} (hP : va_P D vwCl (((kv_kw ci ad kc kh ks fo kl kp dy mo n pa aE qp qm ql qv qc qe mt mv sw hv tk tn sc) ++ [((aO, .inl (ci 4, 1, .inr (.inl g))) : Nat × va_E)]) ++ (kv_mw ci md th nw co ho ve la pr rg rp rm rc re ro rl mcn mtn mtk msp ba)) H) (hD : va_D (fun q : Nat => s.heap.size ≤ q) (((kv_kw ci ad kc kh ks fo kl kp dy mo n pa aE qp qm ql qv qc qe mt mv sw hv tk tn sc) ++ [((aO, .inl (ci 4, 1, .inr (.inl g))) : Nat × va_E)]) ++ (kv_mw ci md th nw co ho ve la pr rg rp rm rc re ro rl mcn mtn mtk msp ba))) (hS : va_S (fun q : Nat => s.heap.size ≤ q) s.heap H locs) (hl : lv_has ls 7 [(0, .ref b), (1, .ref (ad 0)), (2, .ref (md 0)), (3, .ref aO), (4, .int (nI a))]) (hkk : law_K p l en s m below meth c D ci ad md aS aO b (nI a) 1454 (cl + 10) (sl + 60)) : W p l en room_1 s m #[Value.ref b] below meth c H locs cl sl (lw_Z below #[Value.ref b] s) (F0 m 276 ls []) := by
  obtain ⟨⟨hx, hb, hr, hml, hown, hts0, hX, hbl, hlocks, hgv⟩, hl9, hT, hT2, hN, hK⟩ := id hC
  have hown : s.vm.findClass RL = some m.cls := hown
  have hts := fun w h => hts0 w (wsL_law_in w h)
  have hA : ∀ q : Nat, s.heap.size ≤ q → (fun q : Nat => s.heap.size ≤ q) q := fun _ h => h
  have hbA : ¬ (fun q : Nat => s.heap.size ≤ q) b := Nat.not_le.mpr hbl
  obtain ⟨z0, z1, z2, z3, z4, z5⟩ := ag_find kc kh fo kl kp dy n qp qm ql qv qc qe sw th nw co ho ve la pr rg rp rm rc re ro rl mtk msp (xs (nI a + 1).toNatClampNeg) (xs (nI a + 2).toNatClampNeg) (xs (nI a + 3).toNatClampNeg) hI
  refine lv_aload_n hx hb dL_law_276 rfl (lv_at hl 1 rfl) ?_
  refine lv_aload_n hx hb dL_law_277 rfl (lv_at hl 0 rfl) ?_
  refine lv_iload hx hb dL_law_278 (lv_at hl 4 rfl) ?_
  refine lv_iconst (v := 1) hx hb dL_law_280 (by decide) ?_
  refine lv_iadd hx hb dL_law_281 ?_
  refine va_sld hx hb hX hbl hbA hS (kv_ix1 (by omega) hL) dL_law_282 ?_
  refine lv_aload_n hx hb dL_law_283 rfl (lv_at hl 0 rfl) ?_
  refine lv_iload hx hb dL_law_284 (lv_at hl 4 rfl) ?_
  refine lv_iconst (v := 2) hx hb dL_law_286 (by decide) ?_
  refine lv_iadd hx hb dL_law_287 ?_
  refine va_sld hx hb hX hbl hbA hS (kv_ix2 (by omega) hL) dL_law_288 ?_
  refine lv_aload_n hx hb dL_law_289 rfl (lv_at hl 0 rfl) ?_
  refine lv_iload hx hb dL_law_290 (lv_at hl 4 rfl) ?_
  refine lv_iconst (v := 3) hx hb dL_law_292 (by decide) ?_
  refine lv_iadd hx hb dL_law_293 ?_
  refine va_sld hx hb hX hbl hbA hS (kv_ix3 (by omega) hL) dL_law_294 ?_
  refine lv_aload_n hx hb dL_law_295 rfl (lv_at hl 3 rfl) ?_
  refine kv_calliF (vx_runSW (As := [.ref (ad 0), .int (xs (nI a + 1).toNatClampNeg), .int (xs (nI a + 2).toNatClampNeg), .int (xs (nI a + 3).toNatClampNeg), .ref aO]) (rest := []) ⟨hx, hb, hml, hown, hts⟩ (c_L_find l hl9 D ci ad aS kc kh ks fo kl kp dy mo n pa aE qp qm ql qv qc qe mt mv sw hv tk tn sc aO g (xs (nI a + 1).toNatClampNeg) (xs (nI a + 2).toNatClampNeg) (xs (nI a + 3).toNatClampNeg) z0 z1 H.size) (vx_cwSW 5 hts gL_law_L_find rfl rfl rfl (by decide +kernel) ⟨Nat.le_of_ble_eq_true rfl, Nat.le_of_ble_eq_true rfl⟩) (kv_preSW hK (kv_Pl hP) (kv_Dl hD) hT hT2 hN hS hA) rfl rfl hl.1 rfl (lv_room (Nat.le_of_ble_eq_true rfl)) dL_law_296 ⟨kv_room1 (by omega), kv_room2 (by omega)⟩) hP hD hS hA (fun r u H locs hw hP hD hS => ?_)
  obtain ⟨fo', g'⟩ := u
  have hP : va_P D vwCl (((kv_kw ci ad kc kh ks fo' kl kp dy mo n pa aE qp qm ql qv qc qe mt mv sw hv tk tn sc) ++ [((aO, .inl (ci 4, 1, .inr (.inl g'))) : Nat × va_E)]) ++ (kv_mw ci md th nw co ho ve la pr rg rp rm rc re ro rl mcn mtn mtk msp ba)) H := hP
  have hD : va_D (fun q : Nat => s.heap.size ≤ q) (((kv_kw ci ad kc kh ks fo' kl kp dy mo n pa aE qp qm ql qv qc qe mt mv sw hv tk tn sc) ++ [((aO, .inl (ci 4, 1, .inr (.inl g'))) : Nat × va_E)]) ++ (kv_mw ci md th nw co ho ve la pr rg rp rm rc re ro rl mcn mtn mtk msp ba)) := hD
  refine lv_istore (lv' := [(5, .int r), (0, .ref b), (1, .ref (ad 0)), (2, .ref (md 0)), (3, .ref aO), (4, .int (nI a))]) hx hb dL_law_299 hl (by decide) rfl (fun ls hl => ?_)
  refine lv_aload_n hx hb dL_law_301 rfl (lv_at hl 3 rfl) ?_
  refine lv_aload_n hx hb dL_law_302 rfl (lv_at hl 1 rfl) ?_
  refine lv_iload hx hb dL_law_303 (lv_at hl 5 rfl) ?_
  refine lv_iconst (v := 1) hx hb dL_law_305 (by decide) ?_
  refine lv_iadd hx hb dL_law_306 ?_
  refine va_sld hx hb hX hbl hbA hS (kv_ix1 (by omega) hL) dL_law_307 ?_
  refine lv_aload_n hx hb dL_law_308 rfl (lv_at hl 1 rfl) ?_
  refine lv_iload hx hb dL_law_309 (lv_at hl 5 rfl) ?_
  refine lv_iconst (v := 2) hx hb dL_law_311 (by decide) ?_
  refine lv_iadd hx hb dL_law_312 ?_
  refine va_sld hx hb hX hbl hbA hS (kv_ix2 (by omega) hL) dL_law_313 ?_
  refine lv_aload_n hx hb dL_law_314 rfl (lv_at hl 1 rfl) ?_
  refine lv_iload hx hb dL_law_315 (lv_at hl 5 rfl) ?_
  refine lv_iconst (v := 3) hx hb dL_law_317 (by decide) ?_
  refine lv_iadd hx hb dL_law_318 ?_
  refine va_sld hx hb hX hbl hbA hS (kv_ix3 (by omega) hL) dL_law_319 ?_
  have hP : va_P D vwCl ((kv_mw ci md th nw co ho ve la pr rg rp rm rc re ro rl mcn mtn mtk msp ba) ++ ((kv_kw ci ad kc kh ks fo' kl kp dy mo n pa aE qp qm ql qv qc qe mt mv sw hv tk tn sc) ++ [((aO, .inl (ci 4, 1, .inr (.inl g'))) : Nat × va_E)])) H := kv_commP hP
  have hD : va_D (fun q : Nat => s.heap.size ≤ q) ((kv_mw ci md th nw co ho ve la pr rg rp rm rc re ro rl mcn mtn mtk msp ba) ++ ((kv_kw ci ad kc kh ks fo' kl kp dy mo n pa aE qp qm ql qv qc qe mt mv sw hv tk tn sc) ++ [((aO, .inl (ci 4, 1, .inr (.inl g'))) : Nat × va_E)])) := kv_commD hD
  refine kv_calliF (va_runV (As := [.int (xs (nI a + 1).toNatClampNeg), .int (xs (nI a + 2).toNatClampNeg), .int (xs (nI a + 3).toNatClampNeg)]) (rest := []) ⟨hx, hb, hml, hown, hts⟩ (c_X3_find l D ci md th nw co ho ve la pr rg rp rm rc re ro rl mcn mtn mtk msp ba (xs (nI a + 1).toNatClampNeg) (xs (nI a + 2).toNatClampNeg) (xs (nI a + 3).toNatClampNeg) z2 H.size) (cwV 3 hts gL_law_X3_find rfl rfl rfl (by decide +kernel) ⟨Nat.le_of_ble_eq_true rfl, Nat.le_of_ble_eq_true rfl⟩) (kv_preV hK (kv_Pl hP) (kv_Dl hD) (r := (RX3, TX3, 19)) (q0 := 0) (k := 4) rfl rfl rfl) rfl rfl hl.1 rfl (lv_room (Nat.le_of_ble_eq_true rfl)) dL_law_320 ⟨kv_room1 (by omega), kv_room2 (by omega)⟩) hP hD hS hA (fun b9 u H locs hwM hP hD hS => ?_)
  obtain ⟨th', ve'⟩ := u
  have hP : va_P D vwCl ((kv_mw ci md th' nw co ho ve' la pr rg rp rm rc re ro rl mcn mtn mtk msp ba) ++ ((kv_kw ci ad kc kh ks fo' kl kp dy mo n pa aE qp qm ql qv qc qe mt mv sw hv tk tn sc) ++ [((aO, .inl (ci 4, 1, .inr (.inl g'))) : Nat × va_E)])) H := hP
  have hD : va_D (fun q : Nat => s.heap.size ≤ q) ((kv_mw ci md th' nw co ho ve' la pr rg rp rm rc re ro rl mcn mtn mtk msp ba) ++ ((kv_kw ci ad kc kh ks fo' kl kp dy mo n pa aE qp qm ql qv qc qe mt mv sw hv tk tn sc) ++ [((aO, .inl (ci 4, 1, .inr (.inl g'))) : Nat × va_E)])) := hD
  refine lv_istore (lv' := [(6, .int b9), (5, .int r), (0, .ref b), (1, .ref (ad 0)), (2, .ref (md 0)), (3, .ref aO), (4, .int (nI a))]) hx hb dL_law_323 hl (by decide) rfl (fun ls hl => ?_)
  refine lv_aload_n hx hb dL_law_325 rfl (lv_at hl 4 rfl) ?_
  refine kv_calliF (va_runV (As := []) (rest := []) ⟨hx, hb, hml, hown, hts⟩ (c_X3_thrown l D ci md th' nw co ho ve' la pr rg rp rm rc re ro rl mcn mtn mtk msp ba (by unfold pf_X3_thrown; exact fun h => nomatch h) H.size) (cwV 0 hts gL_law_X3_thrown rfl rfl rfl (by decide +kernel) ⟨Nat.le_of_ble_eq_true rfl, Nat.le_of_ble_eq_true rfl⟩) (kv_preV hK (kv_Pl hP) (kv_Dl hD) (r := (RX3, TX3, 19)) (q0 := 0) (k := 4) rfl rfl rfl) rfl rfl hl.1 rfl (lv_room (Nat.le_of_ble_eq_true rfl)) dL_law_326 ⟨kv_room1 (by omega), kv_room2 (by omega)⟩) hP hD hS hA (fun t9 u9 H locs hwT hP hD hS => ?_)
  have ht9 : t9 = th' := (Option.some.inj (show some th' = some t9 from hwT)).symm
  rw [ht9]
  have hP : va_P D vwCl (((kv_kw ci ad kc kh ks fo' kl kp dy mo n pa aE qp qm ql qv qc qe mt mv sw hv tk tn sc) ++ [((aO, .inl (ci 4, 1, .inr (.inl g'))) : Nat × va_E)]) ++ (kv_mw ci md th' nw co ho ve' la pr rg rp rm rc re ro rl mcn mtn mtk msp ba)) H := kv_commP hP
  have hD : va_D (fun q : Nat => s.heap.size ≤ q) (((kv_kw ci ad kc kh ks fo' kl kp dy mo n pa aE qp qm ql qv qc qe mt mv sw hv tk tn sc) ++ [((aO, .inl (ci 4, 1, .inr (.inl g'))) : Nat × va_E)]) ++ (kv_mw ci md th' nw co ho ve' la pr rg rp rm rc re ro rl mcn mtn mtk msp ba)) := kv_commD hD
  refine lv_iload hx hb dL_law_329 (lv_at hl 1 rfl) ?_
  rcases hw with ⟨v, hv1, hr0, hg⟩ | ⟨hv1, hr0, hs⟩ | ⟨hv1, hr0, hs⟩
  · obtain ⟨y1, y2, y3⟩ := z3 v fo' b9 th' ve' hv1 hwM
    refine lv_icmp_eq (tgt := 336) hx hb dL_law_331 (by decide) (fun _ => ?_) (fun c9 => absurd (y1.trans hr0.symm) c9)
    refine lv_iload hx hb dL_law_336 (lv_at hl 1 rfl) ?_
    refine lv_if_ne (tgt := 353) hx hb dL_law_338 (by decide) (fun c9 => absurd hr0 c9) (fun _ => ?_)
    refine lv_aload_n hx hb dL_law_341 rfl (lv_at hl 5 rfl) ?_
    refine lv_iconst (v := 0) hx hb dL_law_342 (by decide) ?_
    refine va_lald hx hb hK (kv_Pl hP) (kv_kw ci ad kc kh ks fo' kl kp dy mo n pa aE qp qm ql qv qc qe mt mv sw hv tk tn sc).length 4 kv_last rfl (by unfold vp_in; decide) dL_law_343 ?_
    refine lv_iload hx hb dL_law_344 (lv_at hl 0 rfl) ?_
    refine lv_i2l (v := b9.toInt64) hx hb dL_law_346 rfl ?_
    refine W.lcmp hx hb dL_law_347 ?_
    rw [show g' (0 : Int32).toNatClampNeg = b9.toInt64 from by rw [← y2, show g' = vp_updL g 0 v.toInt64 from hg]; rfl, kv_cmp_eq]
    refine lv_if_eq (tgt := 353) hx hb dL_law_348 (by decide) (fun _ => ?_) (fun c9 => absurd rfl c9)
    refine lv_goto (tgt := 1454) hx hb dL_law_353 (by decide) ?_
    exact hkk _ _ kc kh ks fo' kl kp dy mo n pa aE qp qm ql qv qc qe mt mv sw hv tk tn sc th' nw co ho ve' la pr rg rp rm rc re ro rl mcn mtn mtk msp ba g' H locs ls (by omega) (by omega) y3 hE hP hD hS (lv_sub hl [2, 3, 4, 5, 6] rfl)
  · obtain ⟨y1, y2⟩ := z4 b9 th' ve' hv1 hwM
    obtain ⟨w0, w1⟩ := hs
    have hP : va_P D vwCl (((kv_kw ci ad kc kh ks fo kl kp dy mo n pa aE qp qm ql qv qc qe mt mv sw hv tk tn sc) ++ [((aO, .inl (ci 4, 1, .inr (.inl g'))) : Nat × va_E)]) ++ (kv_mw ci md th' nw co ho ve' la pr rg rp rm rc re ro rl mcn mtn mtk msp ba)) H := by rw [← show fo' = fo from w0]; exact hP
    have hD : va_D (fun q : Nat => s.heap.size ≤ q) (((kv_kw ci ad kc kh ks fo kl kp dy mo n pa aE qp qm ql qv qc qe mt mv sw hv tk tn sc) ++ [((aO, .inl (ci 4, 1, .inr (.inl g'))) : Nat × va_E)]) ++ (kv_mw ci md th' nw co ho ve' la pr rg rp rm rc re ro rl mcn mtn mtk msp ba)) := by rw [← show fo' = fo from w0]; exact hD
    refine lv_icmp_eq (tgt := 336) hx hb dL_law_331 (by decide) (fun _ => ?_) (fun c9 => absurd (y1.trans hr0.symm) c9)
    refine lv_iload hx hb dL_law_336 (lv_at hl 1 rfl) ?_
    refine lv_if_ne (tgt := 353) hx hb dL_law_338 (by decide) (fun _ => ?_) (fun c9 => absurd c9 (by rw [hr0]; decide))
    refine lv_goto (tgt := 1454) hx hb dL_law_353 (by decide) ?_
    exact hkk _ _ kc kh ks fo kl kp dy mo n pa aE qp qm ql qv qc qe mt mv sw hv tk tn sc th' nw co ho ve' la pr rg rp rm rc re ro rl mcn mtn mtk msp ba g' H locs ls (by omega) (by omega) y2 hE hP hD hS (lv_sub hl [2, 3, 4, 5, 6] rfl)
  · obtain ⟨y1, y2⟩ := z5 b9 th' ve' hv1 hwM
    obtain ⟨w0, w1⟩ := hs
    have hP : va_P D vwCl (((kv_kw ci ad kc kh ks fo kl kp dy mo n pa aE qp qm ql qv qc qe mt mv sw hv tk tn sc) ++ [((aO, .inl (ci 4, 1, .inr (.inl g'))) : Nat × va_E)]) ++ (kv_mw ci md th' nw co ho ve' la pr rg rp rm rc re ro rl mcn mtn mtk msp ba)) H := by rw [← show fo' = fo from w0]; exact hP
    have hD : va_D (fun q : Nat => s.heap.size ≤ q) (((kv_kw ci ad kc kh ks fo kl kp dy mo n pa aE qp qm ql qv qc qe mt mv sw hv tk tn sc) ++ [((aO, .inl (ci 4, 1, .inr (.inl g'))) : Nat × va_E)]) ++ (kv_mw ci md th' nw co ho ve' la pr rg rp rm rc re ro rl mcn mtn mtk msp ba)) := by rw [← show fo' = fo from w0]; exact hD
    refine lv_icmp_eq (tgt := 336) hx hb dL_law_331 (by decide) (fun _ => ?_) (fun c9 => absurd (y1.trans hr0.symm) c9)
    refine lv_iload hx hb dL_law_336 (lv_at hl 1 rfl) ?_
    refine lv_if_ne (tgt := 353) hx hb dL_law_338 (by decide) (fun _ => ?_) (fun c9 => absurd c9 (by rw [hr0]; decide))
    refine lv_goto (tgt := 1454) hx hb dL_law_353 (by decide) ?_
    exact hkk _ _ kc kh ks fo kl kp dy mo n pa aE qp qm ql qv qc qe mt mv sw hv tk tn sc th' nw co ho ve' la pr rg rp rm rc re ro rl mcn mtn mtk msp ba g' H locs ls (by omega) (by omega) y2 hE hP hD hS (lv_sub hl [2, 3, 4, 5, 6] rfl)

set_option maxHeartbeats 4000000 in
set_option maxRecDepth 100000 in
theorem law_c_setPrice {p : Program} {l : Launch} {en : Env} {s : State} {m : MethodId} {below : List Frame} {meth : Method} {c : Code} {D : va_G} {ci ad md : Nat → Nat} {aS aO b L : Nat} {xs : Nat → Int32} (hL : L ≤ 2560) (hC : law_C p l s m meth c D ci aS b L xs) {a cl sl : Nat} (ha : a + 5 ≤ L) (hcl : cl ≤ 50000) (hsl : sl ≤ 500000) (kc : Nat → Int32) (kh : Nat → Int32) (ks : Nat → Int32) (fo : Nat → Nat → Int32) (kl : Nat → Int32) (kp : Nat → Int32) (dy : Int32) (mo : Int32) (n : Nat) (pa : Nat → Nat) (aE : Nat) (qp : Nat → Int32) (qm : Nat → Int32) (ql : Nat → Int32) (qv : Nat → Int32) (qc : Nat → Int32) (qe : Nat → Int32) (mt : Nat → Int32) (mv : Nat → Int32) (sw : Nat → Int32) (hv : Int32) (tk : Nat → Int32) (tn : Nat → Int32) (sc : Nat → Int32) (th : Int32) (nw : Int32) (co : Nat → Int32) (ho : Nat → Int32) (ve : Nat → Int32) (la : Nat → Int32) (pr : Nat → Int32) (rg : Int32) (rp : Nat → Int32) (rm : Nat → Int32) (rc : Nat → Int32) (re : Nat → Int32) (ro : Nat → Int32) (rl : Nat → Int32) (mcn : Nat → Int32) (mtn : Nat → Int32) (mtk : Nat → Int32) (msp : Nat → Int32) (ba : Int32) (g : Nat → Int64) (hI : kv_inv kc kh fo kl kp dy n qp qm ql qv qc qe sw nw co ho ve la pr rg rp rm rc re ro rl mtk msp) (hE : n = 0 → aE = aS) {H : Heap} {locs : List Loc} {ls : Array Slot} (hP : va_P D vwCl (((kv_kw ci ad kc kh ks fo kl kp dy mo n pa aE qp qm ql qv qc qe mt mv sw hv tk tn sc) ++ [((aO, .inl (ci 4, 1, .inr (.inl g))) : Nat × va_E)]) ++ (kv_mw ci md th nw co ho ve la pr rg rp rm rc re ro rl mcn mtn mtk msp ba)) H) (hD : va_D (fun q : Nat => s.heap.size ≤ q) (((kv_kw ci ad kc kh ks fo kl kp dy mo n pa aE qp qm ql qv qc qe mt mv sw hv tk tn sc) ++ [((aO, .inl (ci 4, 1, .inr (.inl g))) : Nat × va_E)]) ++ (kv_mw ci md th nw co ho ve la pr rg rp rm rc re ro rl mcn mtn mtk msp ba))) (hS : va_S (fun q : Nat => s.heap.size ≤ q) s.heap H locs) (hl : lv_has ls 7 [(0, .ref b), (1, .ref (ad 0)), (2, .ref (md 0)), (3, .ref aO), (4, .int (nI a))]) (hkk : law_K p l en s m below meth c D ci ad md aS aO b (nI a) 1454 (cl + 10) (sl + 60)) : W p l en room_1 s m #[Value.ref b] below meth c H locs cl sl (lw_Z below #[Value.ref b] s) (F0 m 356 ls []) := by
  obtain ⟨⟨hx, hb, hr, hml, hown, hts0, hX, hbl, hlocks, hgv⟩, hl9, hT, hT2, hN, hK⟩ := id hC
  have hown : s.vm.findClass RL = some m.cls := hown
  have hts := fun w h => hts0 w (wsL_law_in w h)
  have hA : ∀ q : Nat, s.heap.size ≤ q → (fun q : Nat => s.heap.size ≤ q) q := fun _ h => h
  have hbA : ¬ (fun q : Nat => s.heap.size ≤ q) b := Nat.not_le.mpr hbl
  obtain ⟨z0, z1, z2, z3, z4, z5⟩ := ag_setPrice kc kh fo kl kp dy n qp qm ql qv qc qe sw th nw co ho ve la pr rg rp rm rc re ro rl mtk msp (xs (nI a + 1).toNatClampNeg) (xs (nI a + 2).toNatClampNeg) hI
  refine lv_aload_n hx hb dL_law_356 rfl (lv_at hl 1 rfl) ?_
  refine lv_aload_n hx hb dL_law_357 rfl (lv_at hl 0 rfl) ?_
  refine lv_iload hx hb dL_law_358 (lv_at hl 4 rfl) ?_
  refine lv_iconst (v := 1) hx hb dL_law_360 (by decide) ?_
  refine lv_iadd hx hb dL_law_361 ?_
  refine va_sld hx hb hX hbl hbA hS (kv_ix1 (by omega) hL) dL_law_362 ?_
  refine lv_aload_n hx hb dL_law_363 rfl (lv_at hl 0 rfl) ?_
  refine lv_iload hx hb dL_law_364 (lv_at hl 4 rfl) ?_
  refine lv_iconst (v := 2) hx hb dL_law_366 (by decide) ?_
  refine lv_iadd hx hb dL_law_367 ?_
  refine va_sld hx hb hX hbl hbA hS (kv_ix2 (by omega) hL) dL_law_368 ?_
  refine lv_aload_n hx hb dL_law_369 rfl (lv_at hl 3 rfl) ?_
  refine kv_calliF (vx_runSW (As := [.ref (ad 0), .int (xs (nI a + 1).toNatClampNeg), .int (xs (nI a + 2).toNatClampNeg), .ref aO]) (rest := []) ⟨hx, hb, hml, hown, hts⟩ (c_L_setPrice l hl9 D ci ad aS kc kh ks fo kl kp dy mo n pa aE qp qm ql qv qc qe mt mv sw hv tk tn sc aO g (xs (nI a + 1).toNatClampNeg) (xs (nI a + 2).toNatClampNeg) z0 z1 H.size) (vx_cwSW 4 hts gL_law_L_setPrice rfl rfl rfl (by decide +kernel) ⟨Nat.le_of_ble_eq_true rfl, Nat.le_of_ble_eq_true rfl⟩) (kv_preSW hK (kv_Pl hP) (kv_Dl hD) hT hT2 hN hS hA) rfl rfl hl.1 rfl (lv_room (Nat.le_of_ble_eq_true rfl)) dL_law_370 ⟨kv_room1 (by omega), kv_room2 (by omega)⟩) hP hD hS hA (fun r u H locs hw hP hD hS => ?_)
  obtain ⟨kp', g'⟩ := u
  have hP : va_P D vwCl (((kv_kw ci ad kc kh ks fo kl kp' dy mo n pa aE qp qm ql qv qc qe mt mv sw hv tk tn sc) ++ [((aO, .inl (ci 4, 1, .inr (.inl g'))) : Nat × va_E)]) ++ (kv_mw ci md th nw co ho ve la pr rg rp rm rc re ro rl mcn mtn mtk msp ba)) H := hP
  have hD : va_D (fun q : Nat => s.heap.size ≤ q) (((kv_kw ci ad kc kh ks fo kl kp' dy mo n pa aE qp qm ql qv qc qe mt mv sw hv tk tn sc) ++ [((aO, .inl (ci 4, 1, .inr (.inl g'))) : Nat × va_E)]) ++ (kv_mw ci md th nw co ho ve la pr rg rp rm rc re ro rl mcn mtn mtk msp ba)) := hD
  refine lv_istore (lv' := [(5, .int r), (0, .ref b), (1, .ref (ad 0)), (2, .ref (md 0)), (3, .ref aO), (4, .int (nI a))]) hx hb dL_law_373 hl (by decide) rfl (fun ls hl => ?_)
  refine lv_aload_n hx hb dL_law_375 rfl (lv_at hl 3 rfl) ?_
  refine lv_aload_n hx hb dL_law_376 rfl (lv_at hl 1 rfl) ?_
  refine lv_iload hx hb dL_law_377 (lv_at hl 5 rfl) ?_
  refine lv_iconst (v := 1) hx hb dL_law_379 (by decide) ?_
  refine lv_iadd hx hb dL_law_380 ?_
  refine va_sld hx hb hX hbl hbA hS (kv_ix1 (by omega) hL) dL_law_381 ?_
  refine lv_aload_n hx hb dL_law_382 rfl (lv_at hl 1 rfl) ?_
  refine lv_iload hx hb dL_law_383 (lv_at hl 5 rfl) ?_
  refine lv_iconst (v := 2) hx hb dL_law_385 (by decide) ?_
  refine lv_iadd hx hb dL_law_386 ?_
  refine va_sld hx hb hX hbl hbA hS (kv_ix2 (by omega) hL) dL_law_387 ?_
  have hP : va_P D vwCl ((kv_mw ci md th nw co ho ve la pr rg rp rm rc re ro rl mcn mtn mtk msp ba) ++ ((kv_kw ci ad kc kh ks fo kl kp' dy mo n pa aE qp qm ql qv qc qe mt mv sw hv tk tn sc) ++ [((aO, .inl (ci 4, 1, .inr (.inl g'))) : Nat × va_E)])) H := kv_commP hP
  have hD : va_D (fun q : Nat => s.heap.size ≤ q) ((kv_mw ci md th nw co ho ve la pr rg rp rm rc re ro rl mcn mtn mtk msp ba) ++ ((kv_kw ci ad kc kh ks fo kl kp' dy mo n pa aE qp qm ql qv qc qe mt mv sw hv tk tn sc) ++ [((aO, .inl (ci 4, 1, .inr (.inl g'))) : Nat × va_E)])) := kv_commD hD
  refine kv_calliF (va_runV (As := [.int (xs (nI a + 1).toNatClampNeg), .int (xs (nI a + 2).toNatClampNeg)]) (rest := []) ⟨hx, hb, hml, hown, hts⟩ (c_X3_setPrice l D ci md th nw co ho ve la pr rg rp rm rc re ro rl mcn mtn mtk msp ba (xs (nI a + 1).toNatClampNeg) (xs (nI a + 2).toNatClampNeg) z2 H.size) (cwV 2 hts gL_law_X3_setPrice rfl rfl rfl (by decide +kernel) ⟨Nat.le_of_ble_eq_true rfl, Nat.le_of_ble_eq_true rfl⟩) (kv_preV hK (kv_Pl hP) (kv_Dl hD) (r := (RX3, TX3, 19)) (q0 := 0) (k := 4) rfl rfl rfl) rfl rfl hl.1 rfl (lv_room (Nat.le_of_ble_eq_true rfl)) dL_law_388 ⟨kv_room1 (by omega), kv_room2 (by omega)⟩) hP hD hS hA (fun b9 u H locs hwM hP hD hS => ?_)
  obtain ⟨th', pr'⟩ := u
  have hP : va_P D vwCl ((kv_mw ci md th' nw co ho ve la pr' rg rp rm rc re ro rl mcn mtn mtk msp ba) ++ ((kv_kw ci ad kc kh ks fo kl kp' dy mo n pa aE qp qm ql qv qc qe mt mv sw hv tk tn sc) ++ [((aO, .inl (ci 4, 1, .inr (.inl g'))) : Nat × va_E)])) H := hP
  have hD : va_D (fun q : Nat => s.heap.size ≤ q) ((kv_mw ci md th' nw co ho ve la pr' rg rp rm rc re ro rl mcn mtn mtk msp ba) ++ ((kv_kw ci ad kc kh ks fo kl kp' dy mo n pa aE qp qm ql qv qc qe mt mv sw hv tk tn sc) ++ [((aO, .inl (ci 4, 1, .inr (.inl g'))) : Nat × va_E)])) := hD
  refine lv_istore (lv' := [(6, .int b9), (5, .int r), (0, .ref b), (1, .ref (ad 0)), (2, .ref (md 0)), (3, .ref aO), (4, .int (nI a))]) hx hb dL_law_391 hl (by decide) rfl (fun ls hl => ?_)
  refine lv_aload_n hx hb dL_law_393 rfl (lv_at hl 4 rfl) ?_
  refine kv_calliF (va_runV (As := []) (rest := []) ⟨hx, hb, hml, hown, hts⟩ (c_X3_thrown l D ci md th' nw co ho ve la pr' rg rp rm rc re ro rl mcn mtn mtk msp ba (by unfold pf_X3_thrown; exact fun h => nomatch h) H.size) (cwV 0 hts gL_law_X3_thrown rfl rfl rfl (by decide +kernel) ⟨Nat.le_of_ble_eq_true rfl, Nat.le_of_ble_eq_true rfl⟩) (kv_preV hK (kv_Pl hP) (kv_Dl hD) (r := (RX3, TX3, 19)) (q0 := 0) (k := 4) rfl rfl rfl) rfl rfl hl.1 rfl (lv_room (Nat.le_of_ble_eq_true rfl)) dL_law_394 ⟨kv_room1 (by omega), kv_room2 (by omega)⟩) hP hD hS hA (fun t9 u9 H locs hwT hP hD hS => ?_)
  have ht9 : t9 = th' := (Option.some.inj (show some th' = some t9 from hwT)).symm
  rw [ht9]
  have hP : va_P D vwCl (((kv_kw ci ad kc kh ks fo kl kp' dy mo n pa aE qp qm ql qv qc qe mt mv sw hv tk tn sc) ++ [((aO, .inl (ci 4, 1, .inr (.inl g'))) : Nat × va_E)]) ++ (kv_mw ci md th' nw co ho ve la pr' rg rp rm rc re ro rl mcn mtn mtk msp ba)) H := kv_commP hP
  have hD : va_D (fun q : Nat => s.heap.size ≤ q) (((kv_kw ci ad kc kh ks fo kl kp' dy mo n pa aE qp qm ql qv qc qe mt mv sw hv tk tn sc) ++ [((aO, .inl (ci 4, 1, .inr (.inl g'))) : Nat × va_E)]) ++ (kv_mw ci md th' nw co ho ve la pr' rg rp rm rc re ro rl mcn mtn mtk msp ba)) := kv_commD hD
  refine lv_iload hx hb dL_law_397 (lv_at hl 1 rfl) ?_
  rcases hw with ⟨v, hv1, hr0, hg⟩ | ⟨hv1, hr0, hs⟩ | ⟨hv1, hr0, hs⟩
  · obtain ⟨y1, y2, y3⟩ := z3 v kp' b9 th' pr' hv1 hwM
    refine lv_icmp_eq (tgt := 404) hx hb dL_law_399 (by decide) (fun _ => ?_) (fun c9 => absurd (y1.trans hr0.symm) c9)
    refine lv_iload hx hb dL_law_404 (lv_at hl 1 rfl) ?_
    refine lv_if_ne (tgt := 421) hx hb dL_law_406 (by decide) (fun c9 => absurd hr0 c9) (fun _ => ?_)
    refine lv_aload_n hx hb dL_law_409 rfl (lv_at hl 5 rfl) ?_
    refine lv_iconst (v := 0) hx hb dL_law_410 (by decide) ?_
    refine va_lald hx hb hK (kv_Pl hP) (kv_kw ci ad kc kh ks fo kl kp' dy mo n pa aE qp qm ql qv qc qe mt mv sw hv tk tn sc).length 4 kv_last rfl (by unfold vp_in; decide) dL_law_411 ?_
    refine lv_iload hx hb dL_law_412 (lv_at hl 0 rfl) ?_
    refine lv_i2l (v := b9.toInt64) hx hb dL_law_414 rfl ?_
    refine W.lcmp hx hb dL_law_415 ?_
    rw [show g' (0 : Int32).toNatClampNeg = b9.toInt64 from by rw [← y2, show g' = vp_updL g 0 v.toInt64 from hg]; rfl, kv_cmp_eq]
    refine lv_if_eq (tgt := 421) hx hb dL_law_416 (by decide) (fun _ => ?_) (fun c9 => absurd rfl c9)
    refine lv_goto (tgt := 1454) hx hb dL_law_421 (by decide) ?_
    exact hkk _ _ kc kh ks fo kl kp' dy mo n pa aE qp qm ql qv qc qe mt mv sw hv tk tn sc th' nw co ho ve la pr' rg rp rm rc re ro rl mcn mtn mtk msp ba g' H locs ls (by omega) (by omega) y3 hE hP hD hS (lv_sub hl [2, 3, 4, 5, 6] rfl)
  · obtain ⟨y1, y2⟩ := z4 b9 th' pr' hv1 hwM
    obtain ⟨w0, w1⟩ := hs
    have hP : va_P D vwCl (((kv_kw ci ad kc kh ks fo kl kp dy mo n pa aE qp qm ql qv qc qe mt mv sw hv tk tn sc) ++ [((aO, .inl (ci 4, 1, .inr (.inl g'))) : Nat × va_E)]) ++ (kv_mw ci md th' nw co ho ve la pr' rg rp rm rc re ro rl mcn mtn mtk msp ba)) H := by rw [← show kp' = kp from w0]; exact hP
    have hD : va_D (fun q : Nat => s.heap.size ≤ q) (((kv_kw ci ad kc kh ks fo kl kp dy mo n pa aE qp qm ql qv qc qe mt mv sw hv tk tn sc) ++ [((aO, .inl (ci 4, 1, .inr (.inl g'))) : Nat × va_E)]) ++ (kv_mw ci md th' nw co ho ve la pr' rg rp rm rc re ro rl mcn mtn mtk msp ba)) := by rw [← show kp' = kp from w0]; exact hD
    refine lv_icmp_eq (tgt := 404) hx hb dL_law_399 (by decide) (fun _ => ?_) (fun c9 => absurd (y1.trans hr0.symm) c9)
    refine lv_iload hx hb dL_law_404 (lv_at hl 1 rfl) ?_
    refine lv_if_ne (tgt := 421) hx hb dL_law_406 (by decide) (fun _ => ?_) (fun c9 => absurd c9 (by rw [hr0]; decide))
    refine lv_goto (tgt := 1454) hx hb dL_law_421 (by decide) ?_
    exact hkk _ _ kc kh ks fo kl kp dy mo n pa aE qp qm ql qv qc qe mt mv sw hv tk tn sc th' nw co ho ve la pr' rg rp rm rc re ro rl mcn mtn mtk msp ba g' H locs ls (by omega) (by omega) y2 hE hP hD hS (lv_sub hl [2, 3, 4, 5, 6] rfl)
  · obtain ⟨y1, y2⟩ := z5 b9 th' pr' hv1 hwM
    obtain ⟨w0, w1⟩ := hs
    have hP : va_P D vwCl (((kv_kw ci ad kc kh ks fo kl kp dy mo n pa aE qp qm ql qv qc qe mt mv sw hv tk tn sc) ++ [((aO, .inl (ci 4, 1, .inr (.inl g'))) : Nat × va_E)]) ++ (kv_mw ci md th' nw co ho ve la pr' rg rp rm rc re ro rl mcn mtn mtk msp ba)) H := by rw [← show kp' = kp from w0]; exact hP
    have hD : va_D (fun q : Nat => s.heap.size ≤ q) (((kv_kw ci ad kc kh ks fo kl kp dy mo n pa aE qp qm ql qv qc qe mt mv sw hv tk tn sc) ++ [((aO, .inl (ci 4, 1, .inr (.inl g'))) : Nat × va_E)]) ++ (kv_mw ci md th' nw co ho ve la pr' rg rp rm rc re ro rl mcn mtn mtk msp ba)) := by rw [← show kp' = kp from w0]; exact hD
    refine lv_icmp_eq (tgt := 404) hx hb dL_law_399 (by decide) (fun _ => ?_) (fun c9 => absurd (y1.trans hr0.symm) c9)
    refine lv_iload hx hb dL_law_404 (lv_at hl 1 rfl) ?_
    refine lv_if_ne (tgt := 421) hx hb dL_law_406 (by decide) (fun _ => ?_) (fun c9 => absurd c9 (by rw [hr0]; decide))
    refine lv_goto (tgt := 1454) hx hb dL_law_421 (by decide) ?_
    exact hkk _ _ kc kh ks fo kl kp dy mo n pa aE qp qm ql qv qc qe mt mv sw hv tk tn sc th' nw co ho ve la pr' rg rp rm rc re ro rl mcn mtn mtk msp ba g' H locs ls (by omega) (by omega) y2 hE hP hD hS (lv_sub hl [2, 3, 4, 5, 6] rfl)

set_option maxHeartbeats 4000000 in
set_option maxRecDepth 100000 in
theorem law_c_release {p : Program} {l : Launch} {en : Env} {s : State} {m : MethodId} {below : List Frame} {meth : Method} {c : Code} {D : va_G} {ci ad md : Nat → Nat} {aS aO b L : Nat} {xs : Nat → Int32} (hL : L ≤ 2560) (hC : law_C p l s m meth c D ci aS b L xs) {a cl sl : Nat} (ha : a + 5 ≤ L) (hcl : cl ≤ 50000) (hsl : sl ≤ 500000) (kc : Nat → Int32) (kh : Nat → Int32) (ks : Nat → Int32) (fo : Nat → Nat → Int32) (kl : Nat → Int32) (kp : Nat → Int32) (dy : Int32) (mo : Int32) (n : Nat) (pa : Nat → Nat) (aE : Nat) (qp : Nat → Int32) (qm : Nat → Int32) (ql : Nat → Int32) (qv : Nat → Int32) (qc : Nat → Int32) (qe : Nat → Int32) (mt : Nat → Int32) (mv : Nat → Int32) (sw : Nat → Int32) (hv : Int32) (tk : Nat → Int32) (tn : Nat → Int32) (sc : Nat → Int32) (th : Int32) (nw : Int32) (co : Nat → Int32) (ho : Nat → Int32) (ve : Nat → Int32) (la : Nat → Int32) (pr : Nat → Int32) (rg : Int32) (rp : Nat → Int32) (rm : Nat → Int32) (rc : Nat → Int32) (re : Nat → Int32) (ro : Nat → Int32) (rl : Nat → Int32) (mcn : Nat → Int32) (mtn : Nat → Int32) (mtk : Nat → Int32) (msp : Nat → Int32) (ba : Int32) (g : Nat → Int64) (hI : kv_inv kc kh fo kl kp dy n qp qm ql qv qc qe sw nw co ho ve la pr rg rp rm rc re ro rl mtk msp) (hE : n = 0 → aE = aS) {H : Heap} {locs : List Loc} {ls : Array Slot} (hP : va_P D vwCl (((kv_kw ci ad kc kh ks fo kl kp dy mo n pa aE qp qm ql qv qc qe mt mv sw hv tk tn sc) ++ [((aO, .inl (ci 4, 1, .inr (.inl g))) : Nat × va_E)]) ++ (kv_mw ci md th nw co ho ve la pr rg rp rm rc re ro rl mcn mtn mtk msp ba)) H) (hD : va_D (fun q : Nat => s.heap.size ≤ q) (((kv_kw ci ad kc kh ks fo kl kp dy mo n pa aE qp qm ql qv qc qe mt mv sw hv tk tn sc) ++ [((aO, .inl (ci 4, 1, .inr (.inl g))) : Nat × va_E)]) ++ (kv_mw ci md th nw co ho ve la pr rg rp rm rc re ro rl mcn mtn mtk msp ba))) (hS : va_S (fun q : Nat => s.heap.size ≤ q) s.heap H locs) (hl : lv_has ls 7 [(0, .ref b), (1, .ref (ad 0)), (2, .ref (md 0)), (3, .ref aO), (4, .int (nI a))]) (hkk : law_K p l en s m below meth c D ci ad md aS aO b (nI a) 1454 (cl + 10) (sl + 60)) : W p l en room_1 s m #[Value.ref b] below meth c H locs cl sl (lw_Z below #[Value.ref b] s) (F0 m 424 ls []) := by
  obtain ⟨⟨hx, hb, hr, hml, hown, hts0, hX, hbl, hlocks, hgv⟩, hl9, hT, hT2, hN, hK⟩ := id hC
  have hown : s.vm.findClass RL = some m.cls := hown
  have hts := fun w h => hts0 w (wsL_law_in w h)
  have hA : ∀ q : Nat, s.heap.size ≤ q → (fun q : Nat => s.heap.size ≤ q) q := fun _ h => h
  have hbA : ¬ (fun q : Nat => s.heap.size ≤ q) b := Nat.not_le.mpr hbl
  obtain ⟨z0, z1, z2, z3, z4, z5⟩ := ag_release kc kh fo kl kp dy n qp qm ql qv qc qe sw th nw co ho ve la pr rg rp rm rc re ro rl mtk msp (xs (nI a + 1).toNatClampNeg) hI
  refine lv_aload_n hx hb dL_law_424 rfl (lv_at hl 1 rfl) ?_
  refine lv_aload_n hx hb dL_law_425 rfl (lv_at hl 0 rfl) ?_
  refine lv_iload hx hb dL_law_426 (lv_at hl 4 rfl) ?_
  refine lv_iconst (v := 1) hx hb dL_law_428 (by decide) ?_
  refine lv_iadd hx hb dL_law_429 ?_
  refine va_sld hx hb hX hbl hbA hS (kv_ix1 (by omega) hL) dL_law_430 ?_
  refine lv_aload_n hx hb dL_law_431 rfl (lv_at hl 3 rfl) ?_
  refine kv_calliF (vx_runSW (As := [.ref (ad 0), .int (xs (nI a + 1).toNatClampNeg), .ref aO]) (rest := []) ⟨hx, hb, hml, hown, hts⟩ (c_L_release l hl9 D ci ad aS kc kh ks fo kl kp dy mo n pa aE qp qm ql qv qc qe mt mv sw hv tk tn sc aO g (xs (nI a + 1).toNatClampNeg) z0 z1 H.size) (vx_cwSW 3 hts gL_law_L_release rfl rfl rfl (by decide +kernel) ⟨Nat.le_of_ble_eq_true rfl, Nat.le_of_ble_eq_true rfl⟩) (kv_preSW hK (kv_Pl hP) (kv_Dl hD) hT hT2 hN hS hA) rfl rfl hl.1 rfl (lv_room (Nat.le_of_ble_eq_true rfl)) dL_law_432 ⟨kv_room1 (by omega), kv_room2 (by omega)⟩) hP hD hS hA (fun r u H locs hw hP hD hS => ?_)
  obtain ⟨kl', qv', g'⟩ := u
  have hP : va_P D vwCl (((kv_kw ci ad kc kh ks fo kl' kp dy mo n pa aE qp qm ql qv' qc qe mt mv sw hv tk tn sc) ++ [((aO, .inl (ci 4, 1, .inr (.inl g'))) : Nat × va_E)]) ++ (kv_mw ci md th nw co ho ve la pr rg rp rm rc re ro rl mcn mtn mtk msp ba)) H := hP
  have hD : va_D (fun q : Nat => s.heap.size ≤ q) (((kv_kw ci ad kc kh ks fo kl' kp dy mo n pa aE qp qm ql qv' qc qe mt mv sw hv tk tn sc) ++ [((aO, .inl (ci 4, 1, .inr (.inl g'))) : Nat × va_E)]) ++ (kv_mw ci md th nw co ho ve la pr rg rp rm rc re ro rl mcn mtn mtk msp ba)) := hD
  refine lv_istore (lv' := [(5, .int r), (0, .ref b), (1, .ref (ad 0)), (2, .ref (md 0)), (3, .ref aO), (4, .int (nI a))]) hx hb dL_law_435 hl (by decide) rfl (fun ls hl => ?_)
  refine lv_aload_n hx hb dL_law_437 rfl (lv_at hl 3 rfl) ?_
  refine lv_aload_n hx hb dL_law_438 rfl (lv_at hl 1 rfl) ?_
  refine lv_iload hx hb dL_law_439 (lv_at hl 5 rfl) ?_
  refine lv_iconst (v := 1) hx hb dL_law_441 (by decide) ?_
  refine lv_iadd hx hb dL_law_442 ?_
  refine va_sld hx hb hX hbl hbA hS (kv_ix1 (by omega) hL) dL_law_443 ?_
  have hP : va_P D vwCl ((kv_mw ci md th nw co ho ve la pr rg rp rm rc re ro rl mcn mtn mtk msp ba) ++ ((kv_kw ci ad kc kh ks fo kl' kp dy mo n pa aE qp qm ql qv' qc qe mt mv sw hv tk tn sc) ++ [((aO, .inl (ci 4, 1, .inr (.inl g'))) : Nat × va_E)])) H := kv_commP hP
  have hD : va_D (fun q : Nat => s.heap.size ≤ q) ((kv_mw ci md th nw co ho ve la pr rg rp rm rc re ro rl mcn mtn mtk msp ba) ++ ((kv_kw ci ad kc kh ks fo kl' kp dy mo n pa aE qp qm ql qv' qc qe mt mv sw hv tk tn sc) ++ [((aO, .inl (ci 4, 1, .inr (.inl g'))) : Nat × va_E)])) := kv_commD hD
  refine kv_calliF (va_runV (As := [.int (xs (nI a + 1).toNatClampNeg)]) (rest := []) ⟨hx, hb, hml, hown, hts⟩ (c_X3_release l D ci md th nw co ho ve la pr rg rp rm rc re ro rl mcn mtn mtk msp ba (xs (nI a + 1).toNatClampNeg) z2 H.size) (cwV 1 hts gL_law_X3_release rfl rfl rfl (by decide +kernel) ⟨Nat.le_of_ble_eq_true rfl, Nat.le_of_ble_eq_true rfl⟩) (kv_preV hK (kv_Pl hP) (kv_Dl hD) (r := (RX3, TX3, 19)) (q0 := 0) (k := 4) rfl rfl rfl) rfl rfl hl.1 rfl (lv_room (Nat.le_of_ble_eq_true rfl)) dL_law_444 ⟨kv_room1 (by omega), kv_room2 (by omega)⟩) hP hD hS hA (fun b9 u H locs hwM hP hD hS => ?_)
  obtain ⟨th', la', ro'⟩ := u
  have hP : va_P D vwCl ((kv_mw ci md th' nw co ho ve la' pr rg rp rm rc re ro' rl mcn mtn mtk msp ba) ++ ((kv_kw ci ad kc kh ks fo kl' kp dy mo n pa aE qp qm ql qv' qc qe mt mv sw hv tk tn sc) ++ [((aO, .inl (ci 4, 1, .inr (.inl g'))) : Nat × va_E)])) H := hP
  have hD : va_D (fun q : Nat => s.heap.size ≤ q) ((kv_mw ci md th' nw co ho ve la' pr rg rp rm rc re ro' rl mcn mtn mtk msp ba) ++ ((kv_kw ci ad kc kh ks fo kl' kp dy mo n pa aE qp qm ql qv' qc qe mt mv sw hv tk tn sc) ++ [((aO, .inl (ci 4, 1, .inr (.inl g'))) : Nat × va_E)])) := hD
  refine lv_istore (lv' := [(6, .int b9), (5, .int r), (0, .ref b), (1, .ref (ad 0)), (2, .ref (md 0)), (3, .ref aO), (4, .int (nI a))]) hx hb dL_law_447 hl (by decide) rfl (fun ls hl => ?_)
  refine lv_aload_n hx hb dL_law_449 rfl (lv_at hl 4 rfl) ?_
  refine kv_calliF (va_runV (As := []) (rest := []) ⟨hx, hb, hml, hown, hts⟩ (c_X3_thrown l D ci md th' nw co ho ve la' pr rg rp rm rc re ro' rl mcn mtn mtk msp ba (by unfold pf_X3_thrown; exact fun h => nomatch h) H.size) (cwV 0 hts gL_law_X3_thrown rfl rfl rfl (by decide +kernel) ⟨Nat.le_of_ble_eq_true rfl, Nat.le_of_ble_eq_true rfl⟩) (kv_preV hK (kv_Pl hP) (kv_Dl hD) (r := (RX3, TX3, 19)) (q0 := 0) (k := 4) rfl rfl rfl) rfl rfl hl.1 rfl (lv_room (Nat.le_of_ble_eq_true rfl)) dL_law_450 ⟨kv_room1 (by omega), kv_room2 (by omega)⟩) hP hD hS hA (fun t9 u9 H locs hwT hP hD hS => ?_)
  have ht9 : t9 = th' := (Option.some.inj (show some th' = some t9 from hwT)).symm
  rw [ht9]
  have hP : va_P D vwCl (((kv_kw ci ad kc kh ks fo kl' kp dy mo n pa aE qp qm ql qv' qc qe mt mv sw hv tk tn sc) ++ [((aO, .inl (ci 4, 1, .inr (.inl g'))) : Nat × va_E)]) ++ (kv_mw ci md th' nw co ho ve la' pr rg rp rm rc re ro' rl mcn mtn mtk msp ba)) H := kv_commP hP
  have hD : va_D (fun q : Nat => s.heap.size ≤ q) (((kv_kw ci ad kc kh ks fo kl' kp dy mo n pa aE qp qm ql qv' qc qe mt mv sw hv tk tn sc) ++ [((aO, .inl (ci 4, 1, .inr (.inl g'))) : Nat × va_E)]) ++ (kv_mw ci md th' nw co ho ve la' pr rg rp rm rc re ro' rl mcn mtn mtk msp ba)) := kv_commD hD
  refine lv_iload hx hb dL_law_453 (lv_at hl 1 rfl) ?_
  rcases hw with ⟨v, hv1, hr0, hg⟩ | ⟨hv1, hr0, hs⟩ | ⟨hv1, hr0, hs⟩
  · obtain ⟨y1, y2, y3⟩ := z3 v kl' qv' b9 th' la' ro' hv1 hwM
    refine lv_icmp_eq (tgt := 460) hx hb dL_law_455 (by decide) (fun _ => ?_) (fun c9 => absurd (y1.trans hr0.symm) c9)
    refine lv_iload hx hb dL_law_460 (lv_at hl 1 rfl) ?_
    refine lv_if_ne (tgt := 477) hx hb dL_law_462 (by decide) (fun c9 => absurd hr0 c9) (fun _ => ?_)
    refine lv_aload_n hx hb dL_law_465 rfl (lv_at hl 5 rfl) ?_
    refine lv_iconst (v := 0) hx hb dL_law_466 (by decide) ?_
    refine va_lald hx hb hK (kv_Pl hP) (kv_kw ci ad kc kh ks fo kl' kp dy mo n pa aE qp qm ql qv' qc qe mt mv sw hv tk tn sc).length 4 kv_last rfl (by unfold vp_in; decide) dL_law_467 ?_
    refine lv_iload hx hb dL_law_468 (lv_at hl 0 rfl) ?_
    refine lv_i2l (v := b9.toInt64) hx hb dL_law_470 rfl ?_
    refine W.lcmp hx hb dL_law_471 ?_
    rw [show g' (0 : Int32).toNatClampNeg = b9.toInt64 from by rw [← y2, show g' = vp_updL g 0 v.toInt64 from hg]; rfl, kv_cmp_eq]
    refine lv_if_eq (tgt := 477) hx hb dL_law_472 (by decide) (fun _ => ?_) (fun c9 => absurd rfl c9)
    refine lv_goto (tgt := 1454) hx hb dL_law_477 (by decide) ?_
    exact hkk _ _ kc kh ks fo kl' kp dy mo n pa aE qp qm ql qv' qc qe mt mv sw hv tk tn sc th' nw co ho ve la' pr rg rp rm rc re ro' rl mcn mtn mtk msp ba g' H locs ls (by omega) (by omega) y3 hE hP hD hS (lv_sub hl [2, 3, 4, 5, 6] rfl)
  · obtain ⟨y1, y2⟩ := z4 b9 th' la' ro' hv1 hwM
    obtain ⟨w0, w1, w2⟩ := hs
    have hP : va_P D vwCl (((kv_kw ci ad kc kh ks fo kl kp dy mo n pa aE qp qm ql qv qc qe mt mv sw hv tk tn sc) ++ [((aO, .inl (ci 4, 1, .inr (.inl g'))) : Nat × va_E)]) ++ (kv_mw ci md th' nw co ho ve la' pr rg rp rm rc re ro' rl mcn mtn mtk msp ba)) H := by rw [← show kl' = kl from w0, ← show qv' = qv from w1]; exact hP
    have hD : va_D (fun q : Nat => s.heap.size ≤ q) (((kv_kw ci ad kc kh ks fo kl kp dy mo n pa aE qp qm ql qv qc qe mt mv sw hv tk tn sc) ++ [((aO, .inl (ci 4, 1, .inr (.inl g'))) : Nat × va_E)]) ++ (kv_mw ci md th' nw co ho ve la' pr rg rp rm rc re ro' rl mcn mtn mtk msp ba)) := by rw [← show kl' = kl from w0, ← show qv' = qv from w1]; exact hD
    refine lv_icmp_eq (tgt := 460) hx hb dL_law_455 (by decide) (fun _ => ?_) (fun c9 => absurd (y1.trans hr0.symm) c9)
    refine lv_iload hx hb dL_law_460 (lv_at hl 1 rfl) ?_
    refine lv_if_ne (tgt := 477) hx hb dL_law_462 (by decide) (fun _ => ?_) (fun c9 => absurd c9 (by rw [hr0]; decide))
    refine lv_goto (tgt := 1454) hx hb dL_law_477 (by decide) ?_
    exact hkk _ _ kc kh ks fo kl kp dy mo n pa aE qp qm ql qv qc qe mt mv sw hv tk tn sc th' nw co ho ve la' pr rg rp rm rc re ro' rl mcn mtn mtk msp ba g' H locs ls (by omega) (by omega) y2 hE hP hD hS (lv_sub hl [2, 3, 4, 5, 6] rfl)
  · obtain ⟨y1, y2⟩ := z5 b9 th' la' ro' hv1 hwM
    obtain ⟨w0, w1, w2⟩ := hs
    have hP : va_P D vwCl (((kv_kw ci ad kc kh ks fo kl kp dy mo n pa aE qp qm ql qv qc qe mt mv sw hv tk tn sc) ++ [((aO, .inl (ci 4, 1, .inr (.inl g'))) : Nat × va_E)]) ++ (kv_mw ci md th' nw co ho ve la' pr rg rp rm rc re ro' rl mcn mtn mtk msp ba)) H := by rw [← show kl' = kl from w0, ← show qv' = qv from w1]; exact hP
    have hD : va_D (fun q : Nat => s.heap.size ≤ q) (((kv_kw ci ad kc kh ks fo kl kp dy mo n pa aE qp qm ql qv qc qe mt mv sw hv tk tn sc) ++ [((aO, .inl (ci 4, 1, .inr (.inl g'))) : Nat × va_E)]) ++ (kv_mw ci md th' nw co ho ve la' pr rg rp rm rc re ro' rl mcn mtn mtk msp ba)) := by rw [← show kl' = kl from w0, ← show qv' = qv from w1]; exact hD
    refine lv_icmp_eq (tgt := 460) hx hb dL_law_455 (by decide) (fun _ => ?_) (fun c9 => absurd (y1.trans hr0.symm) c9)
    refine lv_iload hx hb dL_law_460 (lv_at hl 1 rfl) ?_
    refine lv_if_ne (tgt := 477) hx hb dL_law_462 (by decide) (fun _ => ?_) (fun c9 => absurd c9 (by rw [hr0]; decide))
    refine lv_goto (tgt := 1454) hx hb dL_law_477 (by decide) ?_
    exact hkk _ _ kc kh ks fo kl kp dy mo n pa aE qp qm ql qv qc qe mt mv sw hv tk tn sc th' nw co ho ve la' pr rg rp rm rc re ro' rl mcn mtn mtk msp ba g' H locs ls (by omega) (by omega) y2 hE hP hD hS (lv_sub hl [2, 3, 4, 5, 6] rfl)

set_option maxHeartbeats 4000000 in
set_option maxRecDepth 100000 in
theorem law_c_buy {p : Program} {l : Launch} {en : Env} {s : State} {m : MethodId} {below : List Frame} {meth : Method} {c : Code} {D : va_G} {ci ad md : Nat → Nat} {aS aO b L : Nat} {xs : Nat → Int32} (hL : L ≤ 2560) (hC : law_C p l s m meth c D ci aS b L xs) {a cl sl : Nat} (ha : a + 5 ≤ L) (hcl : cl ≤ 50000) (hsl : sl ≤ 500000) (kc : Nat → Int32) (kh : Nat → Int32) (ks : Nat → Int32) (fo : Nat → Nat → Int32) (kl : Nat → Int32) (kp : Nat → Int32) (dy : Int32) (mo : Int32) (n : Nat) (pa : Nat → Nat) (aE : Nat) (qp : Nat → Int32) (qm : Nat → Int32) (ql : Nat → Int32) (qv : Nat → Int32) (qc : Nat → Int32) (qe : Nat → Int32) (mt : Nat → Int32) (mv : Nat → Int32) (sw : Nat → Int32) (hv : Int32) (tk : Nat → Int32) (tn : Nat → Int32) (sc : Nat → Int32) (th : Int32) (nw : Int32) (co : Nat → Int32) (ho : Nat → Int32) (ve : Nat → Int32) (la : Nat → Int32) (pr : Nat → Int32) (rg : Int32) (rp : Nat → Int32) (rm : Nat → Int32) (rc : Nat → Int32) (re : Nat → Int32) (ro : Nat → Int32) (rl : Nat → Int32) (mcn : Nat → Int32) (mtn : Nat → Int32) (mtk : Nat → Int32) (msp : Nat → Int32) (ba : Int32) (g : Nat → Int64) (hI : kv_inv kc kh fo kl kp dy n qp qm ql qv qc qe sw nw co ho ve la pr rg rp rm rc re ro rl mtk msp) (hE : n = 0 → aE = aS) {H : Heap} {locs : List Loc} {ls : Array Slot} (hP : va_P D vwCl (((kv_kw ci ad kc kh ks fo kl kp dy mo n pa aE qp qm ql qv qc qe mt mv sw hv tk tn sc) ++ [((aO, .inl (ci 4, 1, .inr (.inl g))) : Nat × va_E)]) ++ (kv_mw ci md th nw co ho ve la pr rg rp rm rc re ro rl mcn mtn mtk msp ba)) H) (hD : va_D (fun q : Nat => s.heap.size ≤ q) (((kv_kw ci ad kc kh ks fo kl kp dy mo n pa aE qp qm ql qv qc qe mt mv sw hv tk tn sc) ++ [((aO, .inl (ci 4, 1, .inr (.inl g))) : Nat × va_E)]) ++ (kv_mw ci md th nw co ho ve la pr rg rp rm rc re ro rl mcn mtn mtk msp ba))) (hS : va_S (fun q : Nat => s.heap.size ≤ q) s.heap H locs) (hl : lv_has ls 7 [(0, .ref b), (1, .ref (ad 0)), (2, .ref (md 0)), (3, .ref aO), (4, .int (nI a))]) (hkk : law_K p l en s m below meth c D ci ad md aS aO b (nI a) 1454 (cl + 10) (sl + 60)) : W p l en room_1 s m #[Value.ref b] below meth c H locs cl sl (lw_Z below #[Value.ref b] s) (F0 m 480 ls []) := by
  obtain ⟨⟨hx, hb, hr, hml, hown, hts0, hX, hbl, hlocks, hgv⟩, hl9, hT, hT2, hN, hK⟩ := id hC
  have hown : s.vm.findClass RL = some m.cls := hown
  have hts := fun w h => hts0 w (wsL_law_in w h)
  have hA : ∀ q : Nat, s.heap.size ≤ q → (fun q : Nat => s.heap.size ≤ q) q := fun _ h => h
  have hbA : ¬ (fun q : Nat => s.heap.size ≤ q) b := Nat.not_le.mpr hbl
  obtain ⟨z0, z1, z2, z3, z4, z5, z6⟩ := ag_buy kc kh fo kl kp dy mo n qp qm ql qv qc qe sw th nw co ho ve la pr rg rp rm rc re ro rl mtk msp (xs (nI a + 1).toNatClampNeg) (xs (nI a + 2).toNatClampNeg) (xs (nI a + 3).toNatClampNeg) (xs (nI a + 4).toNatClampNeg) hI
  refine lv_aload_n hx hb dL_law_480 rfl (lv_at hl 1 rfl) ?_
  refine lv_aload_n hx hb dL_law_481 rfl (lv_at hl 0 rfl) ?_
  refine lv_iload hx hb dL_law_482 (lv_at hl 4 rfl) ?_
  refine lv_iconst (v := 1) hx hb dL_law_484 (by decide) ?_
  refine lv_iadd hx hb dL_law_485 ?_
  refine va_sld hx hb hX hbl hbA hS (kv_ix1 (by omega) hL) dL_law_486 ?_
  refine lv_aload_n hx hb dL_law_487 rfl (lv_at hl 0 rfl) ?_
  refine lv_iload hx hb dL_law_488 (lv_at hl 4 rfl) ?_
  refine lv_iconst (v := 2) hx hb dL_law_490 (by decide) ?_
  refine lv_iadd hx hb dL_law_491 ?_
  refine va_sld hx hb hX hbl hbA hS (kv_ix2 (by omega) hL) dL_law_492 ?_
  refine lv_aload_n hx hb dL_law_493 rfl (lv_at hl 0 rfl) ?_
  refine lv_iload hx hb dL_law_494 (lv_at hl 4 rfl) ?_
  refine lv_iconst (v := 3) hx hb dL_law_496 (by decide) ?_
  refine lv_iadd hx hb dL_law_497 ?_
  refine va_sld hx hb hX hbl hbA hS (kv_ix3 (by omega) hL) dL_law_498 ?_
  refine lv_aload_n hx hb dL_law_499 rfl (lv_at hl 0 rfl) ?_
  refine lv_iload hx hb dL_law_500 (lv_at hl 4 rfl) ?_
  refine lv_iconst (v := 4) hx hb dL_law_502 (by decide) ?_
  refine lv_iadd hx hb dL_law_503 ?_
  refine va_sld hx hb hX hbl hbA hS (kv_ix4 (by omega) hL) dL_law_504 ?_
  refine lv_aload_n hx hb dL_law_505 rfl (lv_at hl 3 rfl) ?_
  refine kv_calliF (vx_runSW (As := [.ref (ad 0), .int (xs (nI a + 1).toNatClampNeg), .int (xs (nI a + 2).toNatClampNeg), .int (xs (nI a + 3).toNatClampNeg), .int (xs (nI a + 4).toNatClampNeg), .ref aO]) (rest := []) ⟨hx, hb, hml, hown, hts⟩ (c_L_buy l hl9 D ci ad aS kc kh ks fo kl kp dy mo n pa aE qp qm ql qv qc qe mt mv sw hv tk tn sc aO g (xs (nI a + 1).toNatClampNeg) (xs (nI a + 2).toNatClampNeg) (xs (nI a + 3).toNatClampNeg) (xs (nI a + 4).toNatClampNeg) hE z0 z1 H.size) (vx_cwSW 6 hts gL_law_L_buy rfl rfl rfl (by decide +kernel) ⟨Nat.le_of_ble_eq_true rfl, Nat.le_of_ble_eq_true rfl⟩) (kv_preSW hK (kv_Pl hP) (kv_Dl hD) hT hT2 hN hS hA) rfl rfl hl.1 rfl (lv_room (Nat.le_of_ble_eq_true rfl)) dL_law_506 ⟨kv_room1 (by omega), kv_room2 (by omega)⟩) hP hD hS hA (fun r u H locs hw hP hD hS => ?_)
  obtain ⟨mo', n', qp', qm', ql', qv', qc', qe', pa', aE', g'⟩ := u
  have hP : va_P D vwCl (((kv_kw ci ad kc kh ks fo kl kp dy mo' n' pa' aE' qp' qm' ql' qv' qc' qe' mt mv sw hv tk tn sc) ++ [((aO, .inl (ci 4, 1, .inr (.inl g'))) : Nat × va_E)]) ++ (kv_mw ci md th nw co ho ve la pr rg rp rm rc re ro rl mcn mtn mtk msp ba)) H := hP
  have hD : va_D (fun q : Nat => s.heap.size ≤ q) (((kv_kw ci ad kc kh ks fo kl kp dy mo' n' pa' aE' qp' qm' ql' qv' qc' qe' mt mv sw hv tk tn sc) ++ [((aO, .inl (ci 4, 1, .inr (.inl g'))) : Nat × va_E)]) ++ (kv_mw ci md th nw co ho ve la pr rg rp rm rc re ro rl mcn mtn mtk msp ba)) := hD
  refine lv_istore (lv' := [(5, .int r), (0, .ref b), (1, .ref (ad 0)), (2, .ref (md 0)), (3, .ref aO), (4, .int (nI a))]) hx hb dL_law_509 hl (by decide) rfl (fun ls hl => ?_)
  refine lv_aload_n hx hb dL_law_511 rfl (lv_at hl 3 rfl) ?_
  refine lv_aload_n hx hb dL_law_512 rfl (lv_at hl 1 rfl) ?_
  refine lv_iload hx hb dL_law_513 (lv_at hl 5 rfl) ?_
  refine lv_iconst (v := 1) hx hb dL_law_515 (by decide) ?_
  refine lv_iadd hx hb dL_law_516 ?_
  refine va_sld hx hb hX hbl hbA hS (kv_ix1 (by omega) hL) dL_law_517 ?_
  refine lv_aload_n hx hb dL_law_518 rfl (lv_at hl 1 rfl) ?_
  refine lv_iload hx hb dL_law_519 (lv_at hl 5 rfl) ?_
  refine lv_iconst (v := 2) hx hb dL_law_521 (by decide) ?_
  refine lv_iadd hx hb dL_law_522 ?_
  refine va_sld hx hb hX hbl hbA hS (kv_ix2 (by omega) hL) dL_law_523 ?_
  refine lv_aload_n hx hb dL_law_524 rfl (lv_at hl 1 rfl) ?_
  refine lv_iload hx hb dL_law_525 (lv_at hl 5 rfl) ?_
  refine lv_iconst (v := 3) hx hb dL_law_527 (by decide) ?_
  refine lv_iadd hx hb dL_law_528 ?_
  refine va_sld hx hb hX hbl hbA hS (kv_ix3 (by omega) hL) dL_law_529 ?_
  refine lv_aload_n hx hb dL_law_530 rfl (lv_at hl 1 rfl) ?_
  refine lv_iload hx hb dL_law_531 (lv_at hl 5 rfl) ?_
  refine lv_iconst (v := 4) hx hb dL_law_533 (by decide) ?_
  refine lv_iadd hx hb dL_law_534 ?_
  refine va_sld hx hb hX hbl hbA hS (kv_ix4 (by omega) hL) dL_law_535 ?_
  have hP : va_P D vwCl ((kv_mw ci md th nw co ho ve la pr rg rp rm rc re ro rl mcn mtn mtk msp ba) ++ ((kv_kw ci ad kc kh ks fo kl kp dy mo' n' pa' aE' qp' qm' ql' qv' qc' qe' mt mv sw hv tk tn sc) ++ [((aO, .inl (ci 4, 1, .inr (.inl g'))) : Nat × va_E)])) H := kv_commP hP
  have hD : va_D (fun q : Nat => s.heap.size ≤ q) ((kv_mw ci md th nw co ho ve la pr rg rp rm rc re ro rl mcn mtn mtk msp ba) ++ ((kv_kw ci ad kc kh ks fo kl kp dy mo' n' pa' aE' qp' qm' ql' qv' qc' qe' mt mv sw hv tk tn sc) ++ [((aO, .inl (ci 4, 1, .inr (.inl g'))) : Nat × va_E)])) := kv_commD hD
  refine kv_calliF (va_runV (As := [.int (xs (nI a + 1).toNatClampNeg), .int (xs (nI a + 2).toNatClampNeg), .int (xs (nI a + 3).toNatClampNeg), .int (xs (nI a + 4).toNatClampNeg)]) (rest := []) ⟨hx, hb, hml, hown, hts⟩ (c_X3_buy l D ci md th nw co ho ve la pr rg rp rm rc re ro rl mcn mtn mtk msp ba (xs (nI a + 1).toNatClampNeg) (xs (nI a + 2).toNatClampNeg) (xs (nI a + 3).toNatClampNeg) (xs (nI a + 4).toNatClampNeg) z2 H.size) (cwV 4 hts gL_law_X3_buy rfl rfl rfl (by decide +kernel) ⟨Nat.le_of_ble_eq_true rfl, Nat.le_of_ble_eq_true rfl⟩) (kv_preV hK (kv_Pl hP) (kv_Dl hD) (r := (RX3, TX3, 19)) (q0 := 0) (k := 4) rfl rfl rfl) rfl rfl hl.1 rfl (lv_room (Nat.le_of_ble_eq_true rfl)) dL_law_536 ⟨kv_room1 (by omega), kv_room2 (by omega)⟩) hP hD hS hA (fun b9 u H locs hwM hP hD hS => ?_)
  obtain ⟨th', rg', rp', rm', rc', ro', rl'⟩ := u
  have hP : va_P D vwCl ((kv_mw ci md th' nw co ho ve la pr rg' rp' rm' rc' re ro' rl' mcn mtn mtk msp ba) ++ ((kv_kw ci ad kc kh ks fo kl kp dy mo' n' pa' aE' qp' qm' ql' qv' qc' qe' mt mv sw hv tk tn sc) ++ [((aO, .inl (ci 4, 1, .inr (.inl g'))) : Nat × va_E)])) H := hP
  have hD : va_D (fun q : Nat => s.heap.size ≤ q) ((kv_mw ci md th' nw co ho ve la pr rg' rp' rm' rc' re ro' rl' mcn mtn mtk msp ba) ++ ((kv_kw ci ad kc kh ks fo kl kp dy mo' n' pa' aE' qp' qm' ql' qv' qc' qe' mt mv sw hv tk tn sc) ++ [((aO, .inl (ci 4, 1, .inr (.inl g'))) : Nat × va_E)])) := hD
  refine lv_istore (lv' := [(6, .int b9), (5, .int r), (0, .ref b), (1, .ref (ad 0)), (2, .ref (md 0)), (3, .ref aO), (4, .int (nI a))]) hx hb dL_law_539 hl (by decide) rfl (fun ls hl => ?_)
  refine lv_aload_n hx hb dL_law_541 rfl (lv_at hl 4 rfl) ?_
  refine kv_calliF (va_runV (As := []) (rest := []) ⟨hx, hb, hml, hown, hts⟩ (c_X3_thrown l D ci md th' nw co ho ve la pr rg' rp' rm' rc' re ro' rl' mcn mtn mtk msp ba (by unfold pf_X3_thrown; exact fun h => nomatch h) H.size) (cwV 0 hts gL_law_X3_thrown rfl rfl rfl (by decide +kernel) ⟨Nat.le_of_ble_eq_true rfl, Nat.le_of_ble_eq_true rfl⟩) (kv_preV hK (kv_Pl hP) (kv_Dl hD) (r := (RX3, TX3, 19)) (q0 := 0) (k := 4) rfl rfl rfl) rfl rfl hl.1 rfl (lv_room (Nat.le_of_ble_eq_true rfl)) dL_law_542 ⟨kv_room1 (by omega), kv_room2 (by omega)⟩) hP hD hS hA (fun t9 u9 H locs hwT hP hD hS => ?_)
  have ht9 : t9 = th' := (Option.some.inj (show some th' = some t9 from hwT)).symm
  rw [ht9]
  have hP : va_P D vwCl (((kv_kw ci ad kc kh ks fo kl kp dy mo' n' pa' aE' qp' qm' ql' qv' qc' qe' mt mv sw hv tk tn sc) ++ [((aO, .inl (ci 4, 1, .inr (.inl g'))) : Nat × va_E)]) ++ (kv_mw ci md th' nw co ho ve la pr rg' rp' rm' rc' re ro' rl' mcn mtn mtk msp ba)) H := kv_commP hP
  have hD : va_D (fun q : Nat => s.heap.size ≤ q) (((kv_kw ci ad kc kh ks fo kl kp dy mo' n' pa' aE' qp' qm' ql' qv' qc' qe' mt mv sw hv tk tn sc) ++ [((aO, .inl (ci 4, 1, .inr (.inl g'))) : Nat × va_E)]) ++ (kv_mw ci md th' nw co ho ve la pr rg' rp' rm' rc' re ro' rl' mcn mtn mtk msp ba)) := kv_commD hD
  refine lv_iload hx hb dL_law_545 (lv_at hl 1 rfl) ?_
  rcases hw with ⟨v, hv1, hr0, hg⟩ | ⟨hv1, hr0, hs⟩ | ⟨hv1, hr0, hs⟩ | ⟨hv1, hr0, hs⟩
  · obtain ⟨y1, y2, y3, y4⟩ := z3 v mo' n' qp' qm' ql' qv' qc' qe' b9 th' rg' rp' rm' rc' ro' rl' hv1 hwM
    refine lv_icmp_eq (tgt := 552) hx hb dL_law_547 (by decide) (fun _ => ?_) (fun c9 => absurd (y1.trans hr0.symm) c9)
    refine lv_iload hx hb dL_law_552 (lv_at hl 1 rfl) ?_
    refine lv_if_ne (tgt := 569) hx hb dL_law_554 (by decide) (fun c9 => absurd hr0 c9) (fun _ => ?_)
    refine lv_aload_n hx hb dL_law_557 rfl (lv_at hl 5 rfl) ?_
    refine lv_iconst (v := 0) hx hb dL_law_558 (by decide) ?_
    refine va_lald hx hb hK (kv_Pl hP) (kv_kw ci ad kc kh ks fo kl kp dy mo' n' pa' aE' qp' qm' ql' qv' qc' qe' mt mv sw hv tk tn sc).length 4 kv_last rfl (by unfold vp_in; decide) dL_law_559 ?_
    refine lv_iload hx hb dL_law_560 (lv_at hl 0 rfl) ?_
    refine lv_i2l (v := b9.toInt64) hx hb dL_law_562 rfl ?_
    refine W.lcmp hx hb dL_law_563 ?_
    rw [show g' (0 : Int32).toNatClampNeg = b9.toInt64 from by rw [← y2, show g' = vp_updL g 0 v.toInt64 from hg]; rfl, kv_cmp_eq]
    refine lv_if_eq (tgt := 569) hx hb dL_law_564 (by decide) (fun _ => ?_) (fun c9 => absurd rfl c9)
    refine lv_goto (tgt := 1454) hx hb dL_law_569 (by decide) ?_
    exact hkk _ _ kc kh ks fo kl kp dy mo' n' pa' aE' qp' qm' ql' qv' qc' qe' mt mv sw hv tk tn sc th' nw co ho ve la pr rg' rp' rm' rc' re ro' rl' mcn mtn mtk msp ba g' H locs ls (by omega) (by omega) y3 (fun h => absurd h y4) hP hD hS (lv_sub hl [2, 3, 4, 5, 6] rfl)
  · obtain ⟨y1, y2⟩ := z4 b9 th' rg' rp' rm' rc' ro' rl' hv1 hwM
    obtain ⟨w0, w1, w2, w3, w4, w5, w6, w7, w8, w9, w10⟩ := hs
    have hP : va_P D vwCl (((kv_kw ci ad kc kh ks fo kl kp dy mo n pa aE qp qm ql qv qc qe mt mv sw hv tk tn sc) ++ [((aO, .inl (ci 4, 1, .inr (.inl g'))) : Nat × va_E)]) ++ (kv_mw ci md th' nw co ho ve la pr rg' rp' rm' rc' re ro' rl' mcn mtn mtk msp ba)) H := by rw [← show mo' = mo from w0, ← show n' = n from w1, ← show qp' = qp from w2, ← show qm' = qm from w3, ← show ql' = ql from w4, ← show qv' = qv from w5, ← show qc' = qc from w6, ← show qe' = qe from w7, ← show pa' = pa from w8, ← show aE' = aE from w9]; exact hP
    have hD : va_D (fun q : Nat => s.heap.size ≤ q) (((kv_kw ci ad kc kh ks fo kl kp dy mo n pa aE qp qm ql qv qc qe mt mv sw hv tk tn sc) ++ [((aO, .inl (ci 4, 1, .inr (.inl g'))) : Nat × va_E)]) ++ (kv_mw ci md th' nw co ho ve la pr rg' rp' rm' rc' re ro' rl' mcn mtn mtk msp ba)) := by rw [← show mo' = mo from w0, ← show n' = n from w1, ← show qp' = qp from w2, ← show qm' = qm from w3, ← show ql' = ql from w4, ← show qv' = qv from w5, ← show qc' = qc from w6, ← show qe' = qe from w7, ← show pa' = pa from w8, ← show aE' = aE from w9]; exact hD
    refine lv_icmp_eq (tgt := 552) hx hb dL_law_547 (by decide) (fun _ => ?_) (fun c9 => absurd (y1.trans hr0.symm) c9)
    refine lv_iload hx hb dL_law_552 (lv_at hl 1 rfl) ?_
    refine lv_if_ne (tgt := 569) hx hb dL_law_554 (by decide) (fun _ => ?_) (fun c9 => absurd c9 (by rw [hr0]; decide))
    refine lv_goto (tgt := 1454) hx hb dL_law_569 (by decide) ?_
    exact hkk _ _ kc kh ks fo kl kp dy mo n pa aE qp qm ql qv qc qe mt mv sw hv tk tn sc th' nw co ho ve la pr rg' rp' rm' rc' re ro' rl' mcn mtn mtk msp ba g' H locs ls (by omega) (by omega) y2 hE hP hD hS (lv_sub hl [2, 3, 4, 5, 6] rfl)
  · obtain ⟨y1, y2⟩ := z5 b9 th' rg' rp' rm' rc' ro' rl' hv1 hwM
    obtain ⟨w0, w1, w2, w3, w4, w5, w6, w7, w8, w9, w10⟩ := hs
    have hP : va_P D vwCl (((kv_kw ci ad kc kh ks fo kl kp dy mo n pa aE qp qm ql qv qc qe mt mv sw hv tk tn sc) ++ [((aO, .inl (ci 4, 1, .inr (.inl g'))) : Nat × va_E)]) ++ (kv_mw ci md th' nw co ho ve la pr rg' rp' rm' rc' re ro' rl' mcn mtn mtk msp ba)) H := by rw [← show mo' = mo from w0, ← show n' = n from w1, ← show qp' = qp from w2, ← show qm' = qm from w3, ← show ql' = ql from w4, ← show qv' = qv from w5, ← show qc' = qc from w6, ← show qe' = qe from w7, ← show pa' = pa from w8, ← show aE' = aE from w9]; exact hP
    have hD : va_D (fun q : Nat => s.heap.size ≤ q) (((kv_kw ci ad kc kh ks fo kl kp dy mo n pa aE qp qm ql qv qc qe mt mv sw hv tk tn sc) ++ [((aO, .inl (ci 4, 1, .inr (.inl g'))) : Nat × va_E)]) ++ (kv_mw ci md th' nw co ho ve la pr rg' rp' rm' rc' re ro' rl' mcn mtn mtk msp ba)) := by rw [← show mo' = mo from w0, ← show n' = n from w1, ← show qp' = qp from w2, ← show qm' = qm from w3, ← show ql' = ql from w4, ← show qv' = qv from w5, ← show qc' = qc from w6, ← show qe' = qe from w7, ← show pa' = pa from w8, ← show aE' = aE from w9]; exact hD
    refine lv_icmp_eq (tgt := 552) hx hb dL_law_547 (by decide) (fun _ => ?_) (fun c9 => absurd (y1.trans hr0.symm) c9)
    refine lv_iload hx hb dL_law_552 (lv_at hl 1 rfl) ?_
    refine lv_if_ne (tgt := 569) hx hb dL_law_554 (by decide) (fun _ => ?_) (fun c9 => absurd c9 (by rw [hr0]; decide))
    refine lv_goto (tgt := 1454) hx hb dL_law_569 (by decide) ?_
    exact hkk _ _ kc kh ks fo kl kp dy mo n pa aE qp qm ql qv qc qe mt mv sw hv tk tn sc th' nw co ho ve la pr rg' rp' rm' rc' re ro' rl' mcn mtn mtk msp ba g' H locs ls (by omega) (by omega) y2 hE hP hD hS (lv_sub hl [2, 3, 4, 5, 6] rfl)
  · obtain ⟨y1, y2⟩ := z6 b9 th' rg' rp' rm' rc' ro' rl' hv1 hwM
    obtain ⟨w0, w1, w2, w3, w4, w5, w6, w7, w8, w9, w10⟩ := hs
    have hP : va_P D vwCl (((kv_kw ci ad kc kh ks fo kl kp dy mo n pa aE qp qm ql qv qc qe mt mv sw hv tk tn sc) ++ [((aO, .inl (ci 4, 1, .inr (.inl g'))) : Nat × va_E)]) ++ (kv_mw ci md th' nw co ho ve la pr rg' rp' rm' rc' re ro' rl' mcn mtn mtk msp ba)) H := by rw [← show mo' = mo from w0, ← show n' = n from w1, ← show qp' = qp from w2, ← show qm' = qm from w3, ← show ql' = ql from w4, ← show qv' = qv from w5, ← show qc' = qc from w6, ← show qe' = qe from w7, ← show pa' = pa from w8, ← show aE' = aE from w9]; exact hP
    have hD : va_D (fun q : Nat => s.heap.size ≤ q) (((kv_kw ci ad kc kh ks fo kl kp dy mo n pa aE qp qm ql qv qc qe mt mv sw hv tk tn sc) ++ [((aO, .inl (ci 4, 1, .inr (.inl g'))) : Nat × va_E)]) ++ (kv_mw ci md th' nw co ho ve la pr rg' rp' rm' rc' re ro' rl' mcn mtn mtk msp ba)) := by rw [← show mo' = mo from w0, ← show n' = n from w1, ← show qp' = qp from w2, ← show qm' = qm from w3, ← show ql' = ql from w4, ← show qv' = qv from w5, ← show qc' = qc from w6, ← show qe' = qe from w7, ← show pa' = pa from w8, ← show aE' = aE from w9]; exact hD
    refine lv_icmp_eq (tgt := 552) hx hb dL_law_547 (by decide) (fun _ => ?_) (fun c9 => absurd (y1.trans hr0.symm) c9)
    refine lv_iload hx hb dL_law_552 (lv_at hl 1 rfl) ?_
    refine lv_if_ne (tgt := 569) hx hb dL_law_554 (by decide) (fun _ => ?_) (fun c9 => absurd c9 (by rw [hr0]; decide))
    refine lv_goto (tgt := 1454) hx hb dL_law_569 (by decide) ?_
    exact hkk _ _ kc kh ks fo kl kp dy mo n pa aE qp qm ql qv qc qe mt mv sw hv tk tn sc th' nw co ho ve la pr rg' rp' rm' rc' re ro' rl' mcn mtn mtk msp ba g' H locs ls (by omega) (by omega) y2 hE hP hD hS (lv_sub hl [2, 3, 4, 5, 6] rfl)

set_option maxHeartbeats 4000000 in
set_option maxRecDepth 100000 in
theorem law_c_upgrade {p : Program} {l : Launch} {en : Env} {s : State} {m : MethodId} {below : List Frame} {meth : Method} {c : Code} {D : va_G} {ci ad md : Nat → Nat} {aS aO b L : Nat} {xs : Nat → Int32} (hL : L ≤ 2560) (hC : law_C p l s m meth c D ci aS b L xs) {a cl sl : Nat} (ha : a + 5 ≤ L) (hcl : cl ≤ 50000) (hsl : sl ≤ 500000) (kc : Nat → Int32) (kh : Nat → Int32) (ks : Nat → Int32) (fo : Nat → Nat → Int32) (kl : Nat → Int32) (kp : Nat → Int32) (dy : Int32) (mo : Int32) (n : Nat) (pa : Nat → Nat) (aE : Nat) (qp : Nat → Int32) (qm : Nat → Int32) (ql : Nat → Int32) (qv : Nat → Int32) (qc : Nat → Int32) (qe : Nat → Int32) (mt : Nat → Int32) (mv : Nat → Int32) (sw : Nat → Int32) (hv : Int32) (tk : Nat → Int32) (tn : Nat → Int32) (sc : Nat → Int32) (th : Int32) (nw : Int32) (co : Nat → Int32) (ho : Nat → Int32) (ve : Nat → Int32) (la : Nat → Int32) (pr : Nat → Int32) (rg : Int32) (rp : Nat → Int32) (rm : Nat → Int32) (rc : Nat → Int32) (re : Nat → Int32) (ro : Nat → Int32) (rl : Nat → Int32) (mcn : Nat → Int32) (mtn : Nat → Int32) (mtk : Nat → Int32) (msp : Nat → Int32) (ba : Int32) (g : Nat → Int64) (hI : kv_inv kc kh fo kl kp dy n qp qm ql qv qc qe sw nw co ho ve la pr rg rp rm rc re ro rl mtk msp) (hE : n = 0 → aE = aS) {H : Heap} {locs : List Loc} {ls : Array Slot} (hP : va_P D vwCl (((kv_kw ci ad kc kh ks fo kl kp dy mo n pa aE qp qm ql qv qc qe mt mv sw hv tk tn sc) ++ [((aO, .inl (ci 4, 1, .inr (.inl g))) : Nat × va_E)]) ++ (kv_mw ci md th nw co ho ve la pr rg rp rm rc re ro rl mcn mtn mtk msp ba)) H) (hD : va_D (fun q : Nat => s.heap.size ≤ q) (((kv_kw ci ad kc kh ks fo kl kp dy mo n pa aE qp qm ql qv qc qe mt mv sw hv tk tn sc) ++ [((aO, .inl (ci 4, 1, .inr (.inl g))) : Nat × va_E)]) ++ (kv_mw ci md th nw co ho ve la pr rg rp rm rc re ro rl mcn mtn mtk msp ba))) (hS : va_S (fun q : Nat => s.heap.size ≤ q) s.heap H locs) (hl : lv_has ls 7 [(0, .ref b), (1, .ref (ad 0)), (2, .ref (md 0)), (3, .ref aO), (4, .int (nI a))]) (hkk : law_K p l en s m below meth c D ci ad md aS aO b (nI a) 1454 (cl + 10) (sl + 60)) : W p l en room_1 s m #[Value.ref b] below meth c H locs cl sl (lw_Z below #[Value.ref b] s) (F0 m 572 ls []) := by
  obtain ⟨⟨hx, hb, hr, hml, hown, hts0, hX, hbl, hlocks, hgv⟩, hl9, hT, hT2, hN, hK⟩ := id hC
  have hown : s.vm.findClass RL = some m.cls := hown
  have hts := fun w h => hts0 w (wsL_law_in w h)
  have hA : ∀ q : Nat, s.heap.size ≤ q → (fun q : Nat => s.heap.size ≤ q) q := fun _ h => h
  have hbA : ¬ (fun q : Nat => s.heap.size ≤ q) b := Nat.not_le.mpr hbl
  obtain ⟨z0, z1, z2, z3, z4, z5, z6⟩ := ag_upgrade kc kh fo kl kp dy mo n qp qm ql qv qc qe sw th nw co ho ve la pr rg rp rm rc re ro rl mtk msp (xs (nI a + 1).toNatClampNeg) (xs (nI a + 2).toNatClampNeg) hI
  refine lv_aload_n hx hb dL_law_572 rfl (lv_at hl 1 rfl) ?_
  refine lv_aload_n hx hb dL_law_573 rfl (lv_at hl 0 rfl) ?_
  refine lv_iload hx hb dL_law_574 (lv_at hl 4 rfl) ?_
  refine lv_iconst (v := 1) hx hb dL_law_576 (by decide) ?_
  refine lv_iadd hx hb dL_law_577 ?_
  refine va_sld hx hb hX hbl hbA hS (kv_ix1 (by omega) hL) dL_law_578 ?_
  refine lv_aload_n hx hb dL_law_579 rfl (lv_at hl 0 rfl) ?_
  refine lv_iload hx hb dL_law_580 (lv_at hl 4 rfl) ?_
  refine lv_iconst (v := 2) hx hb dL_law_582 (by decide) ?_
  refine lv_iadd hx hb dL_law_583 ?_
  refine va_sld hx hb hX hbl hbA hS (kv_ix2 (by omega) hL) dL_law_584 ?_
  refine lv_aload_n hx hb dL_law_585 rfl (lv_at hl 3 rfl) ?_
  refine kv_calliF (vx_runSW (As := [.ref (ad 0), .int (xs (nI a + 1).toNatClampNeg), .int (xs (nI a + 2).toNatClampNeg), .ref aO]) (rest := []) ⟨hx, hb, hml, hown, hts⟩ (c_L_upgrade l hl9 D ci ad aS kc kh ks fo kl kp dy mo n pa aE qp qm ql qv qc qe mt mv sw hv tk tn sc aO g (xs (nI a + 1).toNatClampNeg) (xs (nI a + 2).toNatClampNeg) hE z0 z1 H.size) (vx_cwSW 4 hts gL_law_L_upgrade rfl rfl rfl (by decide +kernel) ⟨Nat.le_of_ble_eq_true rfl, Nat.le_of_ble_eq_true rfl⟩) (kv_preSW hK (kv_Pl hP) (kv_Dl hD) hT hT2 hN hS hA) rfl rfl hl.1 rfl (lv_room (Nat.le_of_ble_eq_true rfl)) dL_law_586 ⟨kv_room1 (by omega), kv_room2 (by omega)⟩) hP hD hS hA (fun r u H locs hw hP hD hS => ?_)
  obtain ⟨mo', n', qp', qm', ql', qv', qc', qe', pa', aE', g'⟩ := u
  have hP : va_P D vwCl (((kv_kw ci ad kc kh ks fo kl kp dy mo' n' pa' aE' qp' qm' ql' qv' qc' qe' mt mv sw hv tk tn sc) ++ [((aO, .inl (ci 4, 1, .inr (.inl g'))) : Nat × va_E)]) ++ (kv_mw ci md th nw co ho ve la pr rg rp rm rc re ro rl mcn mtn mtk msp ba)) H := hP
  have hD : va_D (fun q : Nat => s.heap.size ≤ q) (((kv_kw ci ad kc kh ks fo kl kp dy mo' n' pa' aE' qp' qm' ql' qv' qc' qe' mt mv sw hv tk tn sc) ++ [((aO, .inl (ci 4, 1, .inr (.inl g'))) : Nat × va_E)]) ++ (kv_mw ci md th nw co ho ve la pr rg rp rm rc re ro rl mcn mtn mtk msp ba)) := hD
  refine lv_istore (lv' := [(5, .int r), (0, .ref b), (1, .ref (ad 0)), (2, .ref (md 0)), (3, .ref aO), (4, .int (nI a))]) hx hb dL_law_589 hl (by decide) rfl (fun ls hl => ?_)
  refine lv_aload_n hx hb dL_law_591 rfl (lv_at hl 3 rfl) ?_
  refine lv_aload_n hx hb dL_law_592 rfl (lv_at hl 1 rfl) ?_
  refine lv_iload hx hb dL_law_593 (lv_at hl 5 rfl) ?_
  refine lv_iconst (v := 1) hx hb dL_law_595 (by decide) ?_
  refine lv_iadd hx hb dL_law_596 ?_
  refine va_sld hx hb hX hbl hbA hS (kv_ix1 (by omega) hL) dL_law_597 ?_
  refine lv_aload_n hx hb dL_law_598 rfl (lv_at hl 1 rfl) ?_
  refine lv_iload hx hb dL_law_599 (lv_at hl 5 rfl) ?_
  refine lv_iconst (v := 2) hx hb dL_law_601 (by decide) ?_
  refine lv_iadd hx hb dL_law_602 ?_
  refine va_sld hx hb hX hbl hbA hS (kv_ix2 (by omega) hL) dL_law_603 ?_
  have hP : va_P D vwCl ((kv_mw ci md th nw co ho ve la pr rg rp rm rc re ro rl mcn mtn mtk msp ba) ++ ((kv_kw ci ad kc kh ks fo kl kp dy mo' n' pa' aE' qp' qm' ql' qv' qc' qe' mt mv sw hv tk tn sc) ++ [((aO, .inl (ci 4, 1, .inr (.inl g'))) : Nat × va_E)])) H := kv_commP hP
  have hD : va_D (fun q : Nat => s.heap.size ≤ q) ((kv_mw ci md th nw co ho ve la pr rg rp rm rc re ro rl mcn mtn mtk msp ba) ++ ((kv_kw ci ad kc kh ks fo kl kp dy mo' n' pa' aE' qp' qm' ql' qv' qc' qe' mt mv sw hv tk tn sc) ++ [((aO, .inl (ci 4, 1, .inr (.inl g'))) : Nat × va_E)])) := kv_commD hD
  refine kv_calliF (va_runV (As := [.int (xs (nI a + 1).toNatClampNeg), .int (xs (nI a + 2).toNatClampNeg)]) (rest := []) ⟨hx, hb, hml, hown, hts⟩ (c_X3_upgrade l D ci md th nw co ho ve la pr rg rp rm rc re ro rl mcn mtn mtk msp ba (xs (nI a + 1).toNatClampNeg) (xs (nI a + 2).toNatClampNeg) z2 H.size) (cwV 2 hts gL_law_X3_upgrade rfl rfl rfl (by decide +kernel) ⟨Nat.le_of_ble_eq_true rfl, Nat.le_of_ble_eq_true rfl⟩) (kv_preV hK (kv_Pl hP) (kv_Dl hD) (r := (RX3, TX3, 19)) (q0 := 0) (k := 4) rfl rfl rfl) rfl rfl hl.1 rfl (lv_room (Nat.le_of_ble_eq_true rfl)) dL_law_604 ⟨kv_room1 (by omega), kv_room2 (by omega)⟩) hP hD hS hA (fun b9 u H locs hwM hP hD hS => ?_)
  obtain ⟨th', rg', rp', rm', rc', ro', rl'⟩ := u
  have hP : va_P D vwCl ((kv_mw ci md th' nw co ho ve la pr rg' rp' rm' rc' re ro' rl' mcn mtn mtk msp ba) ++ ((kv_kw ci ad kc kh ks fo kl kp dy mo' n' pa' aE' qp' qm' ql' qv' qc' qe' mt mv sw hv tk tn sc) ++ [((aO, .inl (ci 4, 1, .inr (.inl g'))) : Nat × va_E)])) H := hP
  have hD : va_D (fun q : Nat => s.heap.size ≤ q) ((kv_mw ci md th' nw co ho ve la pr rg' rp' rm' rc' re ro' rl' mcn mtn mtk msp ba) ++ ((kv_kw ci ad kc kh ks fo kl kp dy mo' n' pa' aE' qp' qm' ql' qv' qc' qe' mt mv sw hv tk tn sc) ++ [((aO, .inl (ci 4, 1, .inr (.inl g'))) : Nat × va_E)])) := hD
  refine lv_istore (lv' := [(6, .int b9), (5, .int r), (0, .ref b), (1, .ref (ad 0)), (2, .ref (md 0)), (3, .ref aO), (4, .int (nI a))]) hx hb dL_law_607 hl (by decide) rfl (fun ls hl => ?_)
  refine lv_aload_n hx hb dL_law_609 rfl (lv_at hl 4 rfl) ?_
  refine kv_calliF (va_runV (As := []) (rest := []) ⟨hx, hb, hml, hown, hts⟩ (c_X3_thrown l D ci md th' nw co ho ve la pr rg' rp' rm' rc' re ro' rl' mcn mtn mtk msp ba (by unfold pf_X3_thrown; exact fun h => nomatch h) H.size) (cwV 0 hts gL_law_X3_thrown rfl rfl rfl (by decide +kernel) ⟨Nat.le_of_ble_eq_true rfl, Nat.le_of_ble_eq_true rfl⟩) (kv_preV hK (kv_Pl hP) (kv_Dl hD) (r := (RX3, TX3, 19)) (q0 := 0) (k := 4) rfl rfl rfl) rfl rfl hl.1 rfl (lv_room (Nat.le_of_ble_eq_true rfl)) dL_law_610 ⟨kv_room1 (by omega), kv_room2 (by omega)⟩) hP hD hS hA (fun t9 u9 H locs hwT hP hD hS => ?_)
  have ht9 : t9 = th' := (Option.some.inj (show some th' = some t9 from hwT)).symm
  rw [ht9]
  have hP : va_P D vwCl (((kv_kw ci ad kc kh ks fo kl kp dy mo' n' pa' aE' qp' qm' ql' qv' qc' qe' mt mv sw hv tk tn sc) ++ [((aO, .inl (ci 4, 1, .inr (.inl g'))) : Nat × va_E)]) ++ (kv_mw ci md th' nw co ho ve la pr rg' rp' rm' rc' re ro' rl' mcn mtn mtk msp ba)) H := kv_commP hP
  have hD : va_D (fun q : Nat => s.heap.size ≤ q) (((kv_kw ci ad kc kh ks fo kl kp dy mo' n' pa' aE' qp' qm' ql' qv' qc' qe' mt mv sw hv tk tn sc) ++ [((aO, .inl (ci 4, 1, .inr (.inl g'))) : Nat × va_E)]) ++ (kv_mw ci md th' nw co ho ve la pr rg' rp' rm' rc' re ro' rl' mcn mtn mtk msp ba)) := kv_commD hD
  refine lv_iload hx hb dL_law_613 (lv_at hl 1 rfl) ?_
  rcases hw with ⟨v, hv1, hr0, hg⟩ | ⟨hv1, hr0, hs⟩ | ⟨hv1, hr0, hs⟩ | ⟨hv1, hr0, hs⟩
  · obtain ⟨y1, y2, y3, y4⟩ := z3 v mo' n' qp' qm' ql' qv' qc' qe' b9 th' rg' rp' rm' rc' ro' rl' hv1 hwM
    refine lv_icmp_eq (tgt := 620) hx hb dL_law_615 (by decide) (fun _ => ?_) (fun c9 => absurd (y1.trans hr0.symm) c9)
    refine lv_iload hx hb dL_law_620 (lv_at hl 1 rfl) ?_
    refine lv_if_ne (tgt := 637) hx hb dL_law_622 (by decide) (fun c9 => absurd hr0 c9) (fun _ => ?_)
    refine lv_aload_n hx hb dL_law_625 rfl (lv_at hl 5 rfl) ?_
    refine lv_iconst (v := 0) hx hb dL_law_626 (by decide) ?_
    refine va_lald hx hb hK (kv_Pl hP) (kv_kw ci ad kc kh ks fo kl kp dy mo' n' pa' aE' qp' qm' ql' qv' qc' qe' mt mv sw hv tk tn sc).length 4 kv_last rfl (by unfold vp_in; decide) dL_law_627 ?_
    refine lv_iload hx hb dL_law_628 (lv_at hl 0 rfl) ?_
    refine lv_i2l (v := b9.toInt64) hx hb dL_law_630 rfl ?_
    refine W.lcmp hx hb dL_law_631 ?_
    rw [show g' (0 : Int32).toNatClampNeg = b9.toInt64 from by rw [← y2, show g' = vp_updL g 0 v.toInt64 from hg]; rfl, kv_cmp_eq]
    refine lv_if_eq (tgt := 637) hx hb dL_law_632 (by decide) (fun _ => ?_) (fun c9 => absurd rfl c9)
    refine lv_goto (tgt := 1454) hx hb dL_law_637 (by decide) ?_
    exact hkk _ _ kc kh ks fo kl kp dy mo' n' pa' aE' qp' qm' ql' qv' qc' qe' mt mv sw hv tk tn sc th' nw co ho ve la pr rg' rp' rm' rc' re ro' rl' mcn mtn mtk msp ba g' H locs ls (by omega) (by omega) y3 (fun h => absurd h y4) hP hD hS (lv_sub hl [2, 3, 4, 5, 6] rfl)
  · obtain ⟨y1, y2⟩ := z4 b9 th' rg' rp' rm' rc' ro' rl' hv1 hwM
    obtain ⟨w0, w1, w2, w3, w4, w5, w6, w7, w8, w9, w10⟩ := hs
    have hP : va_P D vwCl (((kv_kw ci ad kc kh ks fo kl kp dy mo n pa aE qp qm ql qv qc qe mt mv sw hv tk tn sc) ++ [((aO, .inl (ci 4, 1, .inr (.inl g'))) : Nat × va_E)]) ++ (kv_mw ci md th' nw co ho ve la pr rg' rp' rm' rc' re ro' rl' mcn mtn mtk msp ba)) H := by rw [← show mo' = mo from w0, ← show n' = n from w1, ← show qp' = qp from w2, ← show qm' = qm from w3, ← show ql' = ql from w4, ← show qv' = qv from w5, ← show qc' = qc from w6, ← show qe' = qe from w7, ← show pa' = pa from w8, ← show aE' = aE from w9]; exact hP
    have hD : va_D (fun q : Nat => s.heap.size ≤ q) (((kv_kw ci ad kc kh ks fo kl kp dy mo n pa aE qp qm ql qv qc qe mt mv sw hv tk tn sc) ++ [((aO, .inl (ci 4, 1, .inr (.inl g'))) : Nat × va_E)]) ++ (kv_mw ci md th' nw co ho ve la pr rg' rp' rm' rc' re ro' rl' mcn mtn mtk msp ba)) := by rw [← show mo' = mo from w0, ← show n' = n from w1, ← show qp' = qp from w2, ← show qm' = qm from w3, ← show ql' = ql from w4, ← show qv' = qv from w5, ← show qc' = qc from w6, ← show qe' = qe from w7, ← show pa' = pa from w8, ← show aE' = aE from w9]; exact hD
    refine lv_icmp_eq (tgt := 620) hx hb dL_law_615 (by decide) (fun _ => ?_) (fun c9 => absurd (y1.trans hr0.symm) c9)
    refine lv_iload hx hb dL_law_620 (lv_at hl 1 rfl) ?_
    refine lv_if_ne (tgt := 637) hx hb dL_law_622 (by decide) (fun _ => ?_) (fun c9 => absurd c9 (by rw [hr0]; decide))
    refine lv_goto (tgt := 1454) hx hb dL_law_637 (by decide) ?_
    exact hkk _ _ kc kh ks fo kl kp dy mo n pa aE qp qm ql qv qc qe mt mv sw hv tk tn sc th' nw co ho ve la pr rg' rp' rm' rc' re ro' rl' mcn mtn mtk msp ba g' H locs ls (by omega) (by omega) y2 hE hP hD hS (lv_sub hl [2, 3, 4, 5, 6] rfl)
  · obtain ⟨y1, y2⟩ := z5 b9 th' rg' rp' rm' rc' ro' rl' hv1 hwM
    obtain ⟨w0, w1, w2, w3, w4, w5, w6, w7, w8, w9, w10⟩ := hs
    have hP : va_P D vwCl (((kv_kw ci ad kc kh ks fo kl kp dy mo n pa aE qp qm ql qv qc qe mt mv sw hv tk tn sc) ++ [((aO, .inl (ci 4, 1, .inr (.inl g'))) : Nat × va_E)]) ++ (kv_mw ci md th' nw co ho ve la pr rg' rp' rm' rc' re ro' rl' mcn mtn mtk msp ba)) H := by rw [← show mo' = mo from w0, ← show n' = n from w1, ← show qp' = qp from w2, ← show qm' = qm from w3, ← show ql' = ql from w4, ← show qv' = qv from w5, ← show qc' = qc from w6, ← show qe' = qe from w7, ← show pa' = pa from w8, ← show aE' = aE from w9]; exact hP
    have hD : va_D (fun q : Nat => s.heap.size ≤ q) (((kv_kw ci ad kc kh ks fo kl kp dy mo n pa aE qp qm ql qv qc qe mt mv sw hv tk tn sc) ++ [((aO, .inl (ci 4, 1, .inr (.inl g'))) : Nat × va_E)]) ++ (kv_mw ci md th' nw co ho ve la pr rg' rp' rm' rc' re ro' rl' mcn mtn mtk msp ba)) := by rw [← show mo' = mo from w0, ← show n' = n from w1, ← show qp' = qp from w2, ← show qm' = qm from w3, ← show ql' = ql from w4, ← show qv' = qv from w5, ← show qc' = qc from w6, ← show qe' = qe from w7, ← show pa' = pa from w8, ← show aE' = aE from w9]; exact hD
    refine lv_icmp_eq (tgt := 620) hx hb dL_law_615 (by decide) (fun _ => ?_) (fun c9 => absurd (y1.trans hr0.symm) c9)
    refine lv_iload hx hb dL_law_620 (lv_at hl 1 rfl) ?_
    refine lv_if_ne (tgt := 637) hx hb dL_law_622 (by decide) (fun _ => ?_) (fun c9 => absurd c9 (by rw [hr0]; decide))
    refine lv_goto (tgt := 1454) hx hb dL_law_637 (by decide) ?_
    exact hkk _ _ kc kh ks fo kl kp dy mo n pa aE qp qm ql qv qc qe mt mv sw hv tk tn sc th' nw co ho ve la pr rg' rp' rm' rc' re ro' rl' mcn mtn mtk msp ba g' H locs ls (by omega) (by omega) y2 hE hP hD hS (lv_sub hl [2, 3, 4, 5, 6] rfl)
  · obtain ⟨y1, y2⟩ := z6 b9 th' rg' rp' rm' rc' ro' rl' hv1 hwM
    obtain ⟨w0, w1, w2, w3, w4, w5, w6, w7, w8, w9, w10⟩ := hs
    have hP : va_P D vwCl (((kv_kw ci ad kc kh ks fo kl kp dy mo n pa aE qp qm ql qv qc qe mt mv sw hv tk tn sc) ++ [((aO, .inl (ci 4, 1, .inr (.inl g'))) : Nat × va_E)]) ++ (kv_mw ci md th' nw co ho ve la pr rg' rp' rm' rc' re ro' rl' mcn mtn mtk msp ba)) H := by rw [← show mo' = mo from w0, ← show n' = n from w1, ← show qp' = qp from w2, ← show qm' = qm from w3, ← show ql' = ql from w4, ← show qv' = qv from w5, ← show qc' = qc from w6, ← show qe' = qe from w7, ← show pa' = pa from w8, ← show aE' = aE from w9]; exact hP
    have hD : va_D (fun q : Nat => s.heap.size ≤ q) (((kv_kw ci ad kc kh ks fo kl kp dy mo n pa aE qp qm ql qv qc qe mt mv sw hv tk tn sc) ++ [((aO, .inl (ci 4, 1, .inr (.inl g'))) : Nat × va_E)]) ++ (kv_mw ci md th' nw co ho ve la pr rg' rp' rm' rc' re ro' rl' mcn mtn mtk msp ba)) := by rw [← show mo' = mo from w0, ← show n' = n from w1, ← show qp' = qp from w2, ← show qm' = qm from w3, ← show ql' = ql from w4, ← show qv' = qv from w5, ← show qc' = qc from w6, ← show qe' = qe from w7, ← show pa' = pa from w8, ← show aE' = aE from w9]; exact hD
    refine lv_icmp_eq (tgt := 620) hx hb dL_law_615 (by decide) (fun _ => ?_) (fun c9 => absurd (y1.trans hr0.symm) c9)
    refine lv_iload hx hb dL_law_620 (lv_at hl 1 rfl) ?_
    refine lv_if_ne (tgt := 637) hx hb dL_law_622 (by decide) (fun _ => ?_) (fun c9 => absurd c9 (by rw [hr0]; decide))
    refine lv_goto (tgt := 1454) hx hb dL_law_637 (by decide) ?_
    exact hkk _ _ kc kh ks fo kl kp dy mo n pa aE qp qm ql qv qc qe mt mv sw hv tk tn sc th' nw co ho ve la pr rg' rp' rm' rc' re ro' rl' mcn mtn mtk msp ba g' H locs ls (by omega) (by omega) y2 hE hP hD hS (lv_sub hl [2, 3, 4, 5, 6] rfl)

set_option maxHeartbeats 4000000 in
set_option maxRecDepth 100000 in
theorem law_c_lend {p : Program} {l : Launch} {en : Env} {s : State} {m : MethodId} {below : List Frame} {meth : Method} {c : Code} {D : va_G} {ci ad md : Nat → Nat} {aS aO b L : Nat} {xs : Nat → Int32} (hL : L ≤ 2560) (hC : law_C p l s m meth c D ci aS b L xs) {a cl sl : Nat} (ha : a + 5 ≤ L) (hcl : cl ≤ 50000) (hsl : sl ≤ 500000) (kc : Nat → Int32) (kh : Nat → Int32) (ks : Nat → Int32) (fo : Nat → Nat → Int32) (kl : Nat → Int32) (kp : Nat → Int32) (dy : Int32) (mo : Int32) (n : Nat) (pa : Nat → Nat) (aE : Nat) (qp : Nat → Int32) (qm : Nat → Int32) (ql : Nat → Int32) (qv : Nat → Int32) (qc : Nat → Int32) (qe : Nat → Int32) (mt : Nat → Int32) (mv : Nat → Int32) (sw : Nat → Int32) (hv : Int32) (tk : Nat → Int32) (tn : Nat → Int32) (sc : Nat → Int32) (th : Int32) (nw : Int32) (co : Nat → Int32) (ho : Nat → Int32) (ve : Nat → Int32) (la : Nat → Int32) (pr : Nat → Int32) (rg : Int32) (rp : Nat → Int32) (rm : Nat → Int32) (rc : Nat → Int32) (re : Nat → Int32) (ro : Nat → Int32) (rl : Nat → Int32) (mcn : Nat → Int32) (mtn : Nat → Int32) (mtk : Nat → Int32) (msp : Nat → Int32) (ba : Int32) (g : Nat → Int64) (hI : kv_inv kc kh fo kl kp dy n qp qm ql qv qc qe sw nw co ho ve la pr rg rp rm rc re ro rl mtk msp) (hE : n = 0 → aE = aS) {H : Heap} {locs : List Loc} {ls : Array Slot} (hP : va_P D vwCl (((kv_kw ci ad kc kh ks fo kl kp dy mo n pa aE qp qm ql qv qc qe mt mv sw hv tk tn sc) ++ [((aO, .inl (ci 4, 1, .inr (.inl g))) : Nat × va_E)]) ++ (kv_mw ci md th nw co ho ve la pr rg rp rm rc re ro rl mcn mtn mtk msp ba)) H) (hD : va_D (fun q : Nat => s.heap.size ≤ q) (((kv_kw ci ad kc kh ks fo kl kp dy mo n pa aE qp qm ql qv qc qe mt mv sw hv tk tn sc) ++ [((aO, .inl (ci 4, 1, .inr (.inl g))) : Nat × va_E)]) ++ (kv_mw ci md th nw co ho ve la pr rg rp rm rc re ro rl mcn mtn mtk msp ba))) (hS : va_S (fun q : Nat => s.heap.size ≤ q) s.heap H locs) (hl : lv_has ls 7 [(0, .ref b), (1, .ref (ad 0)), (2, .ref (md 0)), (3, .ref aO), (4, .int (nI a))]) (hkk : law_K p l en s m below meth c D ci ad md aS aO b (nI a) 1454 (cl + 10) (sl + 60)) : W p l en room_1 s m #[Value.ref b] below meth c H locs cl sl (lw_Z below #[Value.ref b] s) (F0 m 640 ls []) := by
  obtain ⟨⟨hx, hb, hr, hml, hown, hts0, hX, hbl, hlocks, hgv⟩, hl9, hT, hT2, hN, hK⟩ := id hC
  have hown : s.vm.findClass RL = some m.cls := hown
  have hts := fun w h => hts0 w (wsL_law_in w h)
  have hA : ∀ q : Nat, s.heap.size ≤ q → (fun q : Nat => s.heap.size ≤ q) q := fun _ h => h
  have hbA : ¬ (fun q : Nat => s.heap.size ≤ q) b := Nat.not_le.mpr hbl
  obtain ⟨z0, z1, z2, z3, z4, z5, z6⟩ := ag_lend kc kh fo kl kp dy n qp qm ql qv qc qe sw th nw co ho ve la pr rg rp rm rc re ro rl mtk msp (xs (nI a + 1).toNatClampNeg) (xs (nI a + 2).toNatClampNeg) hI
  refine lv_aload_n hx hb dL_law_640 rfl (lv_at hl 1 rfl) ?_
  refine lv_aload_n hx hb dL_law_641 rfl (lv_at hl 0 rfl) ?_
  refine lv_iload hx hb dL_law_642 (lv_at hl 4 rfl) ?_
  refine lv_iconst (v := 1) hx hb dL_law_644 (by decide) ?_
  refine lv_iadd hx hb dL_law_645 ?_
  refine va_sld hx hb hX hbl hbA hS (kv_ix1 (by omega) hL) dL_law_646 ?_
  refine lv_aload_n hx hb dL_law_647 rfl (lv_at hl 0 rfl) ?_
  refine lv_iload hx hb dL_law_648 (lv_at hl 4 rfl) ?_
  refine lv_iconst (v := 2) hx hb dL_law_650 (by decide) ?_
  refine lv_iadd hx hb dL_law_651 ?_
  refine va_sld hx hb hX hbl hbA hS (kv_ix2 (by omega) hL) dL_law_652 ?_
  refine lv_aload_n hx hb dL_law_653 rfl (lv_at hl 3 rfl) ?_
  refine kv_calliF (vx_runSW (As := [.ref (ad 0), .int (xs (nI a + 1).toNatClampNeg), .int (xs (nI a + 2).toNatClampNeg), .ref aO]) (rest := []) ⟨hx, hb, hml, hown, hts⟩ (c_L_lend l hl9 D ci ad aS kc kh ks fo kl kp dy mo n pa aE qp qm ql qv qc qe mt mv sw hv tk tn sc aO g (xs (nI a + 1).toNatClampNeg) (xs (nI a + 2).toNatClampNeg) z0 z1 H.size) (vx_cwSW 4 hts gL_law_L_lend rfl rfl rfl (by decide +kernel) ⟨Nat.le_of_ble_eq_true rfl, Nat.le_of_ble_eq_true rfl⟩) (kv_preSW hK (kv_Pl hP) (kv_Dl hD) hT hT2 hN hS hA) rfl rfl hl.1 rfl (lv_room (Nat.le_of_ble_eq_true rfl)) dL_law_654 ⟨kv_room1 (by omega), kv_room2 (by omega)⟩) hP hD hS hA (fun r u H locs hw hP hD hS => ?_)
  obtain ⟨qc', qe', g'⟩ := u
  have hP : va_P D vwCl (((kv_kw ci ad kc kh ks fo kl kp dy mo n pa aE qp qm ql qv qc' qe' mt mv sw hv tk tn sc) ++ [((aO, .inl (ci 4, 1, .inr (.inl g'))) : Nat × va_E)]) ++ (kv_mw ci md th nw co ho ve la pr rg rp rm rc re ro rl mcn mtn mtk msp ba)) H := hP
  have hD : va_D (fun q : Nat => s.heap.size ≤ q) (((kv_kw ci ad kc kh ks fo kl kp dy mo n pa aE qp qm ql qv qc' qe' mt mv sw hv tk tn sc) ++ [((aO, .inl (ci 4, 1, .inr (.inl g'))) : Nat × va_E)]) ++ (kv_mw ci md th nw co ho ve la pr rg rp rm rc re ro rl mcn mtn mtk msp ba)) := hD
  refine lv_istore (lv' := [(5, .int r), (0, .ref b), (1, .ref (ad 0)), (2, .ref (md 0)), (3, .ref aO), (4, .int (nI a))]) hx hb dL_law_657 hl (by decide) rfl (fun ls hl => ?_)
  refine lv_aload_n hx hb dL_law_659 rfl (lv_at hl 3 rfl) ?_
  refine lv_aload_n hx hb dL_law_660 rfl (lv_at hl 1 rfl) ?_
  refine lv_iload hx hb dL_law_661 (lv_at hl 5 rfl) ?_
  refine lv_iconst (v := 1) hx hb dL_law_663 (by decide) ?_
  refine lv_iadd hx hb dL_law_664 ?_
  refine va_sld hx hb hX hbl hbA hS (kv_ix1 (by omega) hL) dL_law_665 ?_
  refine lv_aload_n hx hb dL_law_666 rfl (lv_at hl 1 rfl) ?_
  refine lv_iload hx hb dL_law_667 (lv_at hl 5 rfl) ?_
  refine lv_iconst (v := 2) hx hb dL_law_669 (by decide) ?_
  refine lv_iadd hx hb dL_law_670 ?_
  refine va_sld hx hb hX hbl hbA hS (kv_ix2 (by omega) hL) dL_law_671 ?_
  have hP : va_P D vwCl ((kv_mw ci md th nw co ho ve la pr rg rp rm rc re ro rl mcn mtn mtk msp ba) ++ ((kv_kw ci ad kc kh ks fo kl kp dy mo n pa aE qp qm ql qv qc' qe' mt mv sw hv tk tn sc) ++ [((aO, .inl (ci 4, 1, .inr (.inl g'))) : Nat × va_E)])) H := kv_commP hP
  have hD : va_D (fun q : Nat => s.heap.size ≤ q) ((kv_mw ci md th nw co ho ve la pr rg rp rm rc re ro rl mcn mtn mtk msp ba) ++ ((kv_kw ci ad kc kh ks fo kl kp dy mo n pa aE qp qm ql qv qc' qe' mt mv sw hv tk tn sc) ++ [((aO, .inl (ci 4, 1, .inr (.inl g'))) : Nat × va_E)])) := kv_commD hD
  refine kv_calliF (va_runV (As := [.int (xs (nI a + 1).toNatClampNeg), .int (xs (nI a + 2).toNatClampNeg)]) (rest := []) ⟨hx, hb, hml, hown, hts⟩ (c_X3_lend l D ci md th nw co ho ve la pr rg rp rm rc re ro rl mcn mtn mtk msp ba (xs (nI a + 1).toNatClampNeg) (xs (nI a + 2).toNatClampNeg) z2 H.size) (cwV 2 hts gL_law_X3_lend rfl rfl rfl (by decide +kernel) ⟨Nat.le_of_ble_eq_true rfl, Nat.le_of_ble_eq_true rfl⟩) (kv_preV hK (kv_Pl hP) (kv_Dl hD) (r := (RX3, TX3, 19)) (q0 := 0) (k := 4) rfl rfl rfl) rfl rfl hl.1 rfl (lv_room (Nat.le_of_ble_eq_true rfl)) dL_law_672 ⟨kv_room1 (by omega), kv_room2 (by omega)⟩) hP hD hS hA (fun b9 u H locs hwM hP hD hS => ?_)
  obtain ⟨th', rc', re'⟩ := u
  have hP : va_P D vwCl ((kv_mw ci md th' nw co ho ve la pr rg rp rm rc' re' ro rl mcn mtn mtk msp ba) ++ ((kv_kw ci ad kc kh ks fo kl kp dy mo n pa aE qp qm ql qv qc' qe' mt mv sw hv tk tn sc) ++ [((aO, .inl (ci 4, 1, .inr (.inl g'))) : Nat × va_E)])) H := hP
  have hD : va_D (fun q : Nat => s.heap.size ≤ q) ((kv_mw ci md th' nw co ho ve la pr rg rp rm rc' re' ro rl mcn mtn mtk msp ba) ++ ((kv_kw ci ad kc kh ks fo kl kp dy mo n pa aE qp qm ql qv qc' qe' mt mv sw hv tk tn sc) ++ [((aO, .inl (ci 4, 1, .inr (.inl g'))) : Nat × va_E)])) := hD
  refine lv_istore (lv' := [(6, .int b9), (5, .int r), (0, .ref b), (1, .ref (ad 0)), (2, .ref (md 0)), (3, .ref aO), (4, .int (nI a))]) hx hb dL_law_675 hl (by decide) rfl (fun ls hl => ?_)
  refine lv_aload_n hx hb dL_law_677 rfl (lv_at hl 4 rfl) ?_
  refine kv_calliF (va_runV (As := []) (rest := []) ⟨hx, hb, hml, hown, hts⟩ (c_X3_thrown l D ci md th' nw co ho ve la pr rg rp rm rc' re' ro rl mcn mtn mtk msp ba (by unfold pf_X3_thrown; exact fun h => nomatch h) H.size) (cwV 0 hts gL_law_X3_thrown rfl rfl rfl (by decide +kernel) ⟨Nat.le_of_ble_eq_true rfl, Nat.le_of_ble_eq_true rfl⟩) (kv_preV hK (kv_Pl hP) (kv_Dl hD) (r := (RX3, TX3, 19)) (q0 := 0) (k := 4) rfl rfl rfl) rfl rfl hl.1 rfl (lv_room (Nat.le_of_ble_eq_true rfl)) dL_law_678 ⟨kv_room1 (by omega), kv_room2 (by omega)⟩) hP hD hS hA (fun t9 u9 H locs hwT hP hD hS => ?_)
  have ht9 : t9 = th' := (Option.some.inj (show some th' = some t9 from hwT)).symm
  rw [ht9]
  have hP : va_P D vwCl (((kv_kw ci ad kc kh ks fo kl kp dy mo n pa aE qp qm ql qv qc' qe' mt mv sw hv tk tn sc) ++ [((aO, .inl (ci 4, 1, .inr (.inl g'))) : Nat × va_E)]) ++ (kv_mw ci md th' nw co ho ve la pr rg rp rm rc' re' ro rl mcn mtn mtk msp ba)) H := kv_commP hP
  have hD : va_D (fun q : Nat => s.heap.size ≤ q) (((kv_kw ci ad kc kh ks fo kl kp dy mo n pa aE qp qm ql qv qc' qe' mt mv sw hv tk tn sc) ++ [((aO, .inl (ci 4, 1, .inr (.inl g'))) : Nat × va_E)]) ++ (kv_mw ci md th' nw co ho ve la pr rg rp rm rc' re' ro rl mcn mtn mtk msp ba)) := kv_commD hD
  refine lv_iload hx hb dL_law_681 (lv_at hl 1 rfl) ?_
  rcases hw with ⟨v, hv1, hr0, hg⟩ | ⟨hv1, hr0, hs⟩ | ⟨hv1, hr0, hs⟩ | ⟨hv1, hr0, hs⟩
  · obtain ⟨y1, y2, y3⟩ := z3 v qc' qe' b9 th' rc' re' hv1 hwM
    refine lv_icmp_eq (tgt := 688) hx hb dL_law_683 (by decide) (fun _ => ?_) (fun c9 => absurd (y1.trans hr0.symm) c9)
    refine lv_iload hx hb dL_law_688 (lv_at hl 1 rfl) ?_
    refine lv_if_ne (tgt := 705) hx hb dL_law_690 (by decide) (fun c9 => absurd hr0 c9) (fun _ => ?_)
    refine lv_aload_n hx hb dL_law_693 rfl (lv_at hl 5 rfl) ?_
    refine lv_iconst (v := 0) hx hb dL_law_694 (by decide) ?_
    refine va_lald hx hb hK (kv_Pl hP) (kv_kw ci ad kc kh ks fo kl kp dy mo n pa aE qp qm ql qv qc' qe' mt mv sw hv tk tn sc).length 4 kv_last rfl (by unfold vp_in; decide) dL_law_695 ?_
    refine lv_iload hx hb dL_law_696 (lv_at hl 0 rfl) ?_
    refine lv_i2l (v := b9.toInt64) hx hb dL_law_698 rfl ?_
    refine W.lcmp hx hb dL_law_699 ?_
    rw [show g' (0 : Int32).toNatClampNeg = b9.toInt64 from by rw [← y2, show g' = vp_updL g 0 v.toInt64 from hg]; rfl, kv_cmp_eq]
    refine lv_if_eq (tgt := 705) hx hb dL_law_700 (by decide) (fun _ => ?_) (fun c9 => absurd rfl c9)
    refine lv_goto (tgt := 1454) hx hb dL_law_705 (by decide) ?_
    exact hkk _ _ kc kh ks fo kl kp dy mo n pa aE qp qm ql qv qc' qe' mt mv sw hv tk tn sc th' nw co ho ve la pr rg rp rm rc' re' ro rl mcn mtn mtk msp ba g' H locs ls (by omega) (by omega) y3 hE hP hD hS (lv_sub hl [2, 3, 4, 5, 6] rfl)
  · obtain ⟨y1, y2⟩ := z4 b9 th' rc' re' hv1 hwM
    obtain ⟨w0, w1, w2⟩ := hs
    have hP : va_P D vwCl (((kv_kw ci ad kc kh ks fo kl kp dy mo n pa aE qp qm ql qv qc qe mt mv sw hv tk tn sc) ++ [((aO, .inl (ci 4, 1, .inr (.inl g'))) : Nat × va_E)]) ++ (kv_mw ci md th' nw co ho ve la pr rg rp rm rc' re' ro rl mcn mtn mtk msp ba)) H := by rw [← show qc' = qc from w0, ← show qe' = qe from w1]; exact hP
    have hD : va_D (fun q : Nat => s.heap.size ≤ q) (((kv_kw ci ad kc kh ks fo kl kp dy mo n pa aE qp qm ql qv qc qe mt mv sw hv tk tn sc) ++ [((aO, .inl (ci 4, 1, .inr (.inl g'))) : Nat × va_E)]) ++ (kv_mw ci md th' nw co ho ve la pr rg rp rm rc' re' ro rl mcn mtn mtk msp ba)) := by rw [← show qc' = qc from w0, ← show qe' = qe from w1]; exact hD
    refine lv_icmp_eq (tgt := 688) hx hb dL_law_683 (by decide) (fun _ => ?_) (fun c9 => absurd (y1.trans hr0.symm) c9)
    refine lv_iload hx hb dL_law_688 (lv_at hl 1 rfl) ?_
    refine lv_if_ne (tgt := 705) hx hb dL_law_690 (by decide) (fun _ => ?_) (fun c9 => absurd c9 (by rw [hr0]; decide))
    refine lv_goto (tgt := 1454) hx hb dL_law_705 (by decide) ?_
    exact hkk _ _ kc kh ks fo kl kp dy mo n pa aE qp qm ql qv qc qe mt mv sw hv tk tn sc th' nw co ho ve la pr rg rp rm rc' re' ro rl mcn mtn mtk msp ba g' H locs ls (by omega) (by omega) y2 hE hP hD hS (lv_sub hl [2, 3, 4, 5, 6] rfl)
  · obtain ⟨y1, y2⟩ := z5 b9 th' rc' re' hv1 hwM
    obtain ⟨w0, w1, w2⟩ := hs
    have hP : va_P D vwCl (((kv_kw ci ad kc kh ks fo kl kp dy mo n pa aE qp qm ql qv qc qe mt mv sw hv tk tn sc) ++ [((aO, .inl (ci 4, 1, .inr (.inl g'))) : Nat × va_E)]) ++ (kv_mw ci md th' nw co ho ve la pr rg rp rm rc' re' ro rl mcn mtn mtk msp ba)) H := by rw [← show qc' = qc from w0, ← show qe' = qe from w1]; exact hP
    have hD : va_D (fun q : Nat => s.heap.size ≤ q) (((kv_kw ci ad kc kh ks fo kl kp dy mo n pa aE qp qm ql qv qc qe mt mv sw hv tk tn sc) ++ [((aO, .inl (ci 4, 1, .inr (.inl g'))) : Nat × va_E)]) ++ (kv_mw ci md th' nw co ho ve la pr rg rp rm rc' re' ro rl mcn mtn mtk msp ba)) := by rw [← show qc' = qc from w0, ← show qe' = qe from w1]; exact hD
    refine lv_icmp_eq (tgt := 688) hx hb dL_law_683 (by decide) (fun _ => ?_) (fun c9 => absurd (y1.trans hr0.symm) c9)
    refine lv_iload hx hb dL_law_688 (lv_at hl 1 rfl) ?_
    refine lv_if_ne (tgt := 705) hx hb dL_law_690 (by decide) (fun _ => ?_) (fun c9 => absurd c9 (by rw [hr0]; decide))
    refine lv_goto (tgt := 1454) hx hb dL_law_705 (by decide) ?_
    exact hkk _ _ kc kh ks fo kl kp dy mo n pa aE qp qm ql qv qc qe mt mv sw hv tk tn sc th' nw co ho ve la pr rg rp rm rc' re' ro rl mcn mtn mtk msp ba g' H locs ls (by omega) (by omega) y2 hE hP hD hS (lv_sub hl [2, 3, 4, 5, 6] rfl)
  · obtain ⟨y1, y2⟩ := z6 b9 th' rc' re' hv1 hwM
    obtain ⟨w0, w1, w2⟩ := hs
    have hP : va_P D vwCl (((kv_kw ci ad kc kh ks fo kl kp dy mo n pa aE qp qm ql qv qc qe mt mv sw hv tk tn sc) ++ [((aO, .inl (ci 4, 1, .inr (.inl g'))) : Nat × va_E)]) ++ (kv_mw ci md th' nw co ho ve la pr rg rp rm rc' re' ro rl mcn mtn mtk msp ba)) H := by rw [← show qc' = qc from w0, ← show qe' = qe from w1]; exact hP
    have hD : va_D (fun q : Nat => s.heap.size ≤ q) (((kv_kw ci ad kc kh ks fo kl kp dy mo n pa aE qp qm ql qv qc qe mt mv sw hv tk tn sc) ++ [((aO, .inl (ci 4, 1, .inr (.inl g'))) : Nat × va_E)]) ++ (kv_mw ci md th' nw co ho ve la pr rg rp rm rc' re' ro rl mcn mtn mtk msp ba)) := by rw [← show qc' = qc from w0, ← show qe' = qe from w1]; exact hD
    refine lv_icmp_eq (tgt := 688) hx hb dL_law_683 (by decide) (fun _ => ?_) (fun c9 => absurd (y1.trans hr0.symm) c9)
    refine lv_iload hx hb dL_law_688 (lv_at hl 1 rfl) ?_
    refine lv_if_ne (tgt := 705) hx hb dL_law_690 (by decide) (fun _ => ?_) (fun c9 => absurd c9 (by rw [hr0]; decide))
    refine lv_goto (tgt := 1454) hx hb dL_law_705 (by decide) ?_
    exact hkk _ _ kc kh ks fo kl kp dy mo n pa aE qp qm ql qv qc qe mt mv sw hv tk tn sc th' nw co ho ve la pr rg rp rm rc' re' ro rl mcn mtn mtk msp ba g' H locs ls (by omega) (by omega) y2 hE hP hD hS (lv_sub hl [2, 3, 4, 5, 6] rfl)

set_option maxHeartbeats 4000000 in
set_option maxRecDepth 100000 in
theorem law_c_pass {p : Program} {l : Launch} {en : Env} {s : State} {m : MethodId} {below : List Frame} {meth : Method} {c : Code} {D : va_G} {ci ad md : Nat → Nat} {aS aO b L : Nat} {xs : Nat → Int32} (hL : L ≤ 2560) (hC : law_C p l s m meth c D ci aS b L xs) {a cl sl : Nat} (ha : a + 5 ≤ L) (hcl : cl ≤ 50000) (hsl : sl ≤ 500000) (kc : Nat → Int32) (kh : Nat → Int32) (ks : Nat → Int32) (fo : Nat → Nat → Int32) (kl : Nat → Int32) (kp : Nat → Int32) (dy : Int32) (mo : Int32) (n : Nat) (pa : Nat → Nat) (aE : Nat) (qp : Nat → Int32) (qm : Nat → Int32) (ql : Nat → Int32) (qv : Nat → Int32) (qc : Nat → Int32) (qe : Nat → Int32) (mt : Nat → Int32) (mv : Nat → Int32) (sw : Nat → Int32) (hv : Int32) (tk : Nat → Int32) (tn : Nat → Int32) (sc : Nat → Int32) (th : Int32) (nw : Int32) (co : Nat → Int32) (ho : Nat → Int32) (ve : Nat → Int32) (la : Nat → Int32) (pr : Nat → Int32) (rg : Int32) (rp : Nat → Int32) (rm : Nat → Int32) (rc : Nat → Int32) (re : Nat → Int32) (ro : Nat → Int32) (rl : Nat → Int32) (mcn : Nat → Int32) (mtn : Nat → Int32) (mtk : Nat → Int32) (msp : Nat → Int32) (ba : Int32) (g : Nat → Int64) (hI : kv_inv kc kh fo kl kp dy n qp qm ql qv qc qe sw nw co ho ve la pr rg rp rm rc re ro rl mtk msp) (hE : n = 0 → aE = aS) {H : Heap} {locs : List Loc} {ls : Array Slot} (hP : va_P D vwCl (((kv_kw ci ad kc kh ks fo kl kp dy mo n pa aE qp qm ql qv qc qe mt mv sw hv tk tn sc) ++ [((aO, .inl (ci 4, 1, .inr (.inl g))) : Nat × va_E)]) ++ (kv_mw ci md th nw co ho ve la pr rg rp rm rc re ro rl mcn mtn mtk msp ba)) H) (hD : va_D (fun q : Nat => s.heap.size ≤ q) (((kv_kw ci ad kc kh ks fo kl kp dy mo n pa aE qp qm ql qv qc qe mt mv sw hv tk tn sc) ++ [((aO, .inl (ci 4, 1, .inr (.inl g))) : Nat × va_E)]) ++ (kv_mw ci md th nw co ho ve la pr rg rp rm rc re ro rl mcn mtn mtk msp ba))) (hS : va_S (fun q : Nat => s.heap.size ≤ q) s.heap H locs) (hl : lv_has ls 7 [(0, .ref b), (1, .ref (ad 0)), (2, .ref (md 0)), (3, .ref aO), (4, .int (nI a))]) (hkk : law_K p l en s m below meth c D ci ad md aS aO b (nI a) 1454 (cl + 10) (sl + 60)) : W p l en room_1 s m #[Value.ref b] below meth c H locs cl sl (lw_Z below #[Value.ref b] s) (F0 m 708 ls []) := by
  obtain ⟨⟨hx, hb, hr, hml, hown, hts0, hX, hbl, hlocks, hgv⟩, hl9, hT, hT2, hN, hK⟩ := id hC
  have hown : s.vm.findClass RL = some m.cls := hown
  have hts := fun w h => hts0 w (wsL_law_in w h)
  have hA : ∀ q : Nat, s.heap.size ≤ q → (fun q : Nat => s.heap.size ≤ q) q := fun _ h => h
  have hbA : ¬ (fun q : Nat => s.heap.size ≤ q) b := Nat.not_le.mpr hbl
  obtain ⟨z0, z1, z2, z3, z4⟩ := ag_pass kc kh fo kl kp dy n qp qm ql qv qc qe sw th nw co ho ve la pr rg rp rm rc re ro rl mtk msp (xs (nI a + 1).toNatClampNeg) hI
  refine lv_aload_n hx hb dL_law_708 rfl (lv_at hl 1 rfl) ?_
  refine lv_aload_n hx hb dL_law_709 rfl (lv_at hl 0 rfl) ?_
  refine lv_iload hx hb dL_law_710 (lv_at hl 4 rfl) ?_
  refine lv_iconst (v := 1) hx hb dL_law_712 (by decide) ?_
  refine lv_iadd hx hb dL_law_713 ?_
  refine va_sld hx hb hX hbl hbA hS (kv_ix1 (by omega) hL) dL_law_714 ?_
  refine lv_aload_n hx hb dL_law_715 rfl (lv_at hl 3 rfl) ?_
  refine kv_calliF (vx_runSW (As := [.ref (ad 0), .int (xs (nI a + 1).toNatClampNeg), .ref aO]) (rest := []) ⟨hx, hb, hml, hown, hts⟩ (c_L_pass l hl9 D ci ad aS kc kh ks fo kl kp dy mo n pa aE qp qm ql qv qc qe mt mv sw hv tk tn sc aO g (xs (nI a + 1).toNatClampNeg) z0 z1 H.size) (vx_cwSW 3 hts gL_law_L_pass rfl rfl rfl (by decide +kernel) ⟨Nat.le_of_ble_eq_true rfl, Nat.le_of_ble_eq_true rfl⟩) (kv_preSW hK (kv_Pl hP) (kv_Dl hD) hT hT2 hN hS hA) rfl rfl hl.1 rfl (lv_room (Nat.le_of_ble_eq_true rfl)) dL_law_716 ⟨kv_room1 (by omega), kv_room2 (by omega)⟩) hP hD hS hA (fun r u H locs hw hP hD hS => ?_)
  obtain ⟨dy', g'⟩ := u
  have hP : va_P D vwCl (((kv_kw ci ad kc kh ks fo kl kp dy' mo n pa aE qp qm ql qv qc qe mt mv sw hv tk tn sc) ++ [((aO, .inl (ci 4, 1, .inr (.inl g'))) : Nat × va_E)]) ++ (kv_mw ci md th nw co ho ve la pr rg rp rm rc re ro rl mcn mtn mtk msp ba)) H := hP
  have hD : va_D (fun q : Nat => s.heap.size ≤ q) (((kv_kw ci ad kc kh ks fo kl kp dy' mo n pa aE qp qm ql qv qc qe mt mv sw hv tk tn sc) ++ [((aO, .inl (ci 4, 1, .inr (.inl g'))) : Nat × va_E)]) ++ (kv_mw ci md th nw co ho ve la pr rg rp rm rc re ro rl mcn mtn mtk msp ba)) := hD
  refine lv_istore (lv' := [(5, .int r), (0, .ref b), (1, .ref (ad 0)), (2, .ref (md 0)), (3, .ref aO), (4, .int (nI a))]) hx hb dL_law_719 hl (by decide) rfl (fun ls hl => ?_)
  refine lv_aload_n hx hb dL_law_721 rfl (lv_at hl 3 rfl) ?_
  refine lv_aload_n hx hb dL_law_722 rfl (lv_at hl 1 rfl) ?_
  refine lv_iload hx hb dL_law_723 (lv_at hl 5 rfl) ?_
  refine lv_iconst (v := 1) hx hb dL_law_725 (by decide) ?_
  refine lv_iadd hx hb dL_law_726 ?_
  refine va_sld hx hb hX hbl hbA hS (kv_ix1 (by omega) hL) dL_law_727 ?_
  have hP : va_P D vwCl ((kv_mw ci md th nw co ho ve la pr rg rp rm rc re ro rl mcn mtn mtk msp ba) ++ ((kv_kw ci ad kc kh ks fo kl kp dy' mo n pa aE qp qm ql qv qc qe mt mv sw hv tk tn sc) ++ [((aO, .inl (ci 4, 1, .inr (.inl g'))) : Nat × va_E)])) H := kv_commP hP
  have hD : va_D (fun q : Nat => s.heap.size ≤ q) ((kv_mw ci md th nw co ho ve la pr rg rp rm rc re ro rl mcn mtn mtk msp ba) ++ ((kv_kw ci ad kc kh ks fo kl kp dy' mo n pa aE qp qm ql qv qc qe mt mv sw hv tk tn sc) ++ [((aO, .inl (ci 4, 1, .inr (.inl g'))) : Nat × va_E)])) := kv_commD hD
  refine kv_calliF (va_runV (As := [.int (xs (nI a + 1).toNatClampNeg)]) (rest := []) ⟨hx, hb, hml, hown, hts⟩ (c_X3_pass l D ci md th nw co ho ve la pr rg rp rm rc re ro rl mcn mtn mtk msp ba (xs (nI a + 1).toNatClampNeg) z2 H.size) (cwV 1 hts gL_law_X3_pass rfl rfl rfl (by decide +kernel) ⟨Nat.le_of_ble_eq_true rfl, Nat.le_of_ble_eq_true rfl⟩) (kv_preV hK (kv_Pl hP) (kv_Dl hD) (r := (RX3, TX3, 19)) (q0 := 0) (k := 4) rfl rfl rfl) rfl rfl hl.1 rfl (lv_room (Nat.le_of_ble_eq_true rfl)) dL_law_728 ⟨kv_room1 (by omega), kv_room2 (by omega)⟩) hP hD hS hA (fun b9 u H locs hwM hP hD hS => ?_)
  obtain ⟨th', nw'⟩ := u
  have hP : va_P D vwCl ((kv_mw ci md th' nw' co ho ve la pr rg rp rm rc re ro rl mcn mtn mtk msp ba) ++ ((kv_kw ci ad kc kh ks fo kl kp dy' mo n pa aE qp qm ql qv qc qe mt mv sw hv tk tn sc) ++ [((aO, .inl (ci 4, 1, .inr (.inl g'))) : Nat × va_E)])) H := hP
  have hD : va_D (fun q : Nat => s.heap.size ≤ q) ((kv_mw ci md th' nw' co ho ve la pr rg rp rm rc re ro rl mcn mtn mtk msp ba) ++ ((kv_kw ci ad kc kh ks fo kl kp dy' mo n pa aE qp qm ql qv qc qe mt mv sw hv tk tn sc) ++ [((aO, .inl (ci 4, 1, .inr (.inl g'))) : Nat × va_E)])) := hD
  refine lv_istore (lv' := [(6, .int b9), (5, .int r), (0, .ref b), (1, .ref (ad 0)), (2, .ref (md 0)), (3, .ref aO), (4, .int (nI a))]) hx hb dL_law_731 hl (by decide) rfl (fun ls hl => ?_)
  refine lv_aload_n hx hb dL_law_733 rfl (lv_at hl 4 rfl) ?_
  refine kv_calliF (va_runV (As := []) (rest := []) ⟨hx, hb, hml, hown, hts⟩ (c_X3_thrown l D ci md th' nw' co ho ve la pr rg rp rm rc re ro rl mcn mtn mtk msp ba (by unfold pf_X3_thrown; exact fun h => nomatch h) H.size) (cwV 0 hts gL_law_X3_thrown rfl rfl rfl (by decide +kernel) ⟨Nat.le_of_ble_eq_true rfl, Nat.le_of_ble_eq_true rfl⟩) (kv_preV hK (kv_Pl hP) (kv_Dl hD) (r := (RX3, TX3, 19)) (q0 := 0) (k := 4) rfl rfl rfl) rfl rfl hl.1 rfl (lv_room (Nat.le_of_ble_eq_true rfl)) dL_law_734 ⟨kv_room1 (by omega), kv_room2 (by omega)⟩) hP hD hS hA (fun t9 u9 H locs hwT hP hD hS => ?_)
  have ht9 : t9 = th' := (Option.some.inj (show some th' = some t9 from hwT)).symm
  rw [ht9]
  have hP : va_P D vwCl (((kv_kw ci ad kc kh ks fo kl kp dy' mo n pa aE qp qm ql qv qc qe mt mv sw hv tk tn sc) ++ [((aO, .inl (ci 4, 1, .inr (.inl g'))) : Nat × va_E)]) ++ (kv_mw ci md th' nw' co ho ve la pr rg rp rm rc re ro rl mcn mtn mtk msp ba)) H := kv_commP hP
  have hD : va_D (fun q : Nat => s.heap.size ≤ q) (((kv_kw ci ad kc kh ks fo kl kp dy' mo n pa aE qp qm ql qv qc qe mt mv sw hv tk tn sc) ++ [((aO, .inl (ci 4, 1, .inr (.inl g'))) : Nat × va_E)]) ++ (kv_mw ci md th' nw' co ho ve la pr rg rp rm rc re ro rl mcn mtn mtk msp ba)) := kv_commD hD
  refine lv_iload hx hb dL_law_737 (lv_at hl 1 rfl) ?_
  rcases hw with ⟨v, hv1, hr0, hg⟩ | ⟨hv1, hr0, hs⟩
  · obtain ⟨y1, y2, y3⟩ := z3 v dy' b9 th' nw' hv1 hwM
    refine lv_icmp_eq (tgt := 744) hx hb dL_law_739 (by decide) (fun _ => ?_) (fun c9 => absurd (y1.trans hr0.symm) c9)
    refine lv_iload hx hb dL_law_744 (lv_at hl 1 rfl) ?_
    refine lv_if_ne (tgt := 761) hx hb dL_law_746 (by decide) (fun c9 => absurd hr0 c9) (fun _ => ?_)
    refine lv_aload_n hx hb dL_law_749 rfl (lv_at hl 5 rfl) ?_
    refine lv_iconst (v := 0) hx hb dL_law_750 (by decide) ?_
    refine va_lald hx hb hK (kv_Pl hP) (kv_kw ci ad kc kh ks fo kl kp dy' mo n pa aE qp qm ql qv qc qe mt mv sw hv tk tn sc).length 4 kv_last rfl (by unfold vp_in; decide) dL_law_751 ?_
    refine lv_iload hx hb dL_law_752 (lv_at hl 0 rfl) ?_
    refine lv_i2l (v := b9.toInt64) hx hb dL_law_754 rfl ?_
    refine W.lcmp hx hb dL_law_755 ?_
    rw [show g' (0 : Int32).toNatClampNeg = b9.toInt64 from by rw [← y2, show g' = vp_updL g 0 v.toInt64 from hg]; rfl, kv_cmp_eq]
    refine lv_if_eq (tgt := 761) hx hb dL_law_756 (by decide) (fun _ => ?_) (fun c9 => absurd rfl c9)
    refine lv_goto (tgt := 1454) hx hb dL_law_761 (by decide) ?_
    exact hkk _ _ kc kh ks fo kl kp dy' mo n pa aE qp qm ql qv qc qe mt mv sw hv tk tn sc th' nw' co ho ve la pr rg rp rm rc re ro rl mcn mtn mtk msp ba g' H locs ls (by omega) (by omega) y3 hE hP hD hS (lv_sub hl [2, 3, 4, 5, 6] rfl)
  · obtain ⟨y1, y2⟩ := z4 b9 th' nw' hv1 hwM
    obtain ⟨w0, w1⟩ := hs
    have hP : va_P D vwCl (((kv_kw ci ad kc kh ks fo kl kp dy mo n pa aE qp qm ql qv qc qe mt mv sw hv tk tn sc) ++ [((aO, .inl (ci 4, 1, .inr (.inl g'))) : Nat × va_E)]) ++ (kv_mw ci md th' nw' co ho ve la pr rg rp rm rc re ro rl mcn mtn mtk msp ba)) H := by rw [← show dy' = dy from w0]; exact hP
    have hD : va_D (fun q : Nat => s.heap.size ≤ q) (((kv_kw ci ad kc kh ks fo kl kp dy mo n pa aE qp qm ql qv qc qe mt mv sw hv tk tn sc) ++ [((aO, .inl (ci 4, 1, .inr (.inl g'))) : Nat × va_E)]) ++ (kv_mw ci md th' nw' co ho ve la pr rg rp rm rc re ro rl mcn mtn mtk msp ba)) := by rw [← show dy' = dy from w0]; exact hD
    refine lv_icmp_eq (tgt := 744) hx hb dL_law_739 (by decide) (fun _ => ?_) (fun c9 => absurd (y1.trans hr0.symm) c9)
    refine lv_iload hx hb dL_law_744 (lv_at hl 1 rfl) ?_
    refine lv_if_ne (tgt := 761) hx hb dL_law_746 (by decide) (fun _ => ?_) (fun c9 => absurd c9 (by rw [hr0]; decide))
    refine lv_goto (tgt := 1454) hx hb dL_law_761 (by decide) ?_
    exact hkk _ _ kc kh ks fo kl kp dy mo n pa aE qp qm ql qv qc qe mt mv sw hv tk tn sc th' nw' co ho ve la pr rg rp rm rc re ro rl mcn mtn mtk msp ba g' H locs ls (by omega) (by omega) y2 hE hP hD hS (lv_sub hl [2, 3, 4, 5, 6] rfl)

set_option maxHeartbeats 4000000 in
set_option maxRecDepth 100000 in
theorem law_c_today {p : Program} {l : Launch} {en : Env} {s : State} {m : MethodId} {below : List Frame} {meth : Method} {c : Code} {D : va_G} {ci ad md : Nat → Nat} {aS aO b L : Nat} {xs : Nat → Int32} (hL : L ≤ 2560) (hC : law_C p l s m meth c D ci aS b L xs) {a cl sl : Nat} (ha : a + 5 ≤ L) (hcl : cl ≤ 50000) (hsl : sl ≤ 500000) (kc : Nat → Int32) (kh : Nat → Int32) (ks : Nat → Int32) (fo : Nat → Nat → Int32) (kl : Nat → Int32) (kp : Nat → Int32) (dy : Int32) (mo : Int32) (n : Nat) (pa : Nat → Nat) (aE : Nat) (qp : Nat → Int32) (qm : Nat → Int32) (ql : Nat → Int32) (qv : Nat → Int32) (qc : Nat → Int32) (qe : Nat → Int32) (mt : Nat → Int32) (mv : Nat → Int32) (sw : Nat → Int32) (hv : Int32) (tk : Nat → Int32) (tn : Nat → Int32) (sc : Nat → Int32) (th : Int32) (nw : Int32) (co : Nat → Int32) (ho : Nat → Int32) (ve : Nat → Int32) (la : Nat → Int32) (pr : Nat → Int32) (rg : Int32) (rp : Nat → Int32) (rm : Nat → Int32) (rc : Nat → Int32) (re : Nat → Int32) (ro : Nat → Int32) (rl : Nat → Int32) (mcn : Nat → Int32) (mtn : Nat → Int32) (mtk : Nat → Int32) (msp : Nat → Int32) (ba : Int32) (g : Nat → Int64) (hI : kv_inv kc kh fo kl kp dy n qp qm ql qv qc qe sw nw co ho ve la pr rg rp rm rc re ro rl mtk msp) (hE : n = 0 → aE = aS) {H : Heap} {locs : List Loc} {ls : Array Slot} (hP : va_P D vwCl (((kv_kw ci ad kc kh ks fo kl kp dy mo n pa aE qp qm ql qv qc qe mt mv sw hv tk tn sc) ++ [((aO, .inl (ci 4, 1, .inr (.inl g))) : Nat × va_E)]) ++ (kv_mw ci md th nw co ho ve la pr rg rp rm rc re ro rl mcn mtn mtk msp ba)) H) (hD : va_D (fun q : Nat => s.heap.size ≤ q) (((kv_kw ci ad kc kh ks fo kl kp dy mo n pa aE qp qm ql qv qc qe mt mv sw hv tk tn sc) ++ [((aO, .inl (ci 4, 1, .inr (.inl g))) : Nat × va_E)]) ++ (kv_mw ci md th nw co ho ve la pr rg rp rm rc re ro rl mcn mtn mtk msp ba))) (hS : va_S (fun q : Nat => s.heap.size ≤ q) s.heap H locs) (hl : lv_has ls 7 [(0, .ref b), (1, .ref (ad 0)), (2, .ref (md 0)), (3, .ref aO), (4, .int (nI a))]) (hkk : law_K p l en s m below meth c D ci ad md aS aO b (nI a) 1454 (cl + 10) (sl + 60)) : W p l en room_1 s m #[Value.ref b] below meth c H locs cl sl (lw_Z below #[Value.ref b] s) (F0 m 764 ls []) := by
  obtain ⟨⟨hx, hb, hr, hml, hown, hts0, hX, hbl, hlocks, hgv⟩, hl9, hT, hT2, hN, hK⟩ := id hC
  have hown : s.vm.findClass RL = some m.cls := hown
  have hts := fun w h => hts0 w (wsL_law_in w h)
  have hA : ∀ q : Nat, s.heap.size ≤ q → (fun q : Nat => s.heap.size ≤ q) q := fun _ h => h
  have hbA : ¬ (fun q : Nat => s.heap.size ≤ q) b := Nat.not_le.mpr hbl
  obtain ⟨z1, z2, z3⟩ := ag_today kc kh fo kl kp dy n qp qm ql qv qc qe sw th nw co ho ve la pr rg rp rm rc re ro rl mtk msp hI
  refine lv_aload_n hx hb dL_law_764 rfl (lv_at hl 1 rfl) ?_
  have hP : va_P D vwCl ((kv_kw ci ad kc kh ks fo kl kp dy mo n pa aE qp qm ql qv qc qe mt mv sw hv tk tn sc) ++ ([((aO, .inl (ci 4, 1, .inr (.inl g))) : Nat × va_E)] ++ (kv_mw ci md th nw co ho ve la pr rg rp rm rc re ro rl mcn mtn mtk msp ba))) H := by rw [← List.append_assoc]; exact hP
  have hD : va_D (fun q : Nat => s.heap.size ≤ q) ((kv_kw ci ad kc kh ks fo kl kp dy mo n pa aE qp qm ql qv qc qe mt mv sw hv tk tn sc) ++ ([((aO, .inl (ci 4, 1, .inr (.inl g))) : Nat × va_E)] ++ (kv_mw ci md th nw co ho ve la pr rg rp rm rc re ro rl mcn mtn mtk msp ba))) := by rw [← List.append_assoc]; exact hD
  refine kv_calliF (va_runV (As := []) (rest := []) ⟨hx, hb, hml, hown, hts⟩ (c_X2_today l D ci ad kc kh ks fo kl kp dy mo n pa aE qp qm ql qv qc qe mt mv sw hv tk tn sc z1 H.size) (cwV 0 hts gL_law_X2_today rfl rfl rfl (by decide +kernel) ⟨Nat.le_of_ble_eq_true rfl, Nat.le_of_ble_eq_true rfl⟩) (kv_preV hK (kv_Pl hP) (kv_Dl hD) (r := (RX2, TX2, 9)) (q0 := 0) (k := 3) rfl rfl rfl) rfl rfl hl.1 rfl (lv_room (Nat.le_of_ble_eq_true rfl)) dL_law_765 ⟨kv_room1 (by omega), kv_room2 (by omega)⟩) hP hD hS hA (fun v u H locs hw hP hD hS => ?_)
  have hP : va_P D vwCl ((kv_mw ci md th nw co ho ve la pr rg rp rm rc re ro rl mcn mtn mtk msp ba) ++ ((kv_kw ci ad kc kh ks fo kl kp dy mo n pa aE qp qm ql qv qc qe mt mv sw hv tk tn sc) ++ [((aO, .inl (ci 4, 1, .inr (.inl g))) : Nat × va_E)])) H := kv_commP (by rw [List.append_assoc]; exact hP)
  have hD : va_D (fun q : Nat => s.heap.size ≤ q) ((kv_mw ci md th nw co ho ve la pr rg rp rm rc re ro rl mcn mtn mtk msp ba) ++ ((kv_kw ci ad kc kh ks fo kl kp dy mo n pa aE qp qm ql qv qc qe mt mv sw hv tk tn sc) ++ [((aO, .inl (ci 4, 1, .inr (.inl g))) : Nat × va_E)])) := kv_commD (by rw [List.append_assoc]; exact hD)
  refine lv_aload_n hx hb dL_law_768 rfl (lv_at hl 2 rfl) ?_
  refine kv_calliF (va_runV (As := []) (rest := [.int v]) ⟨hx, hb, hml, hown, hts⟩ (c_X3_today l D ci md th nw co ho ve la pr rg rp rm rc re ro rl mcn mtn mtk msp ba z2 H.size) (cwV 0 hts gL_law_X3_today rfl rfl rfl (by decide +kernel) ⟨Nat.le_of_ble_eq_true rfl, Nat.le_of_ble_eq_true rfl⟩) (kv_preV hK (kv_Pl hP) (kv_Dl hD) (r := (RX3, TX3, 19)) (q0 := 0) (k := 4) rfl rfl rfl) rfl rfl hl.1 rfl (lv_room (Nat.le_of_ble_eq_true rfl)) dL_law_769 ⟨kv_room1 (by omega), kv_room2 (by omega)⟩) hP hD hS hA (fun b9 th9 H locs hwM hP hD hS => ?_)
  have hvb := z3 v b9 th9 hw hwM
  refine lv_icmp_eq (tgt := 1454) hx hb dL_law_772 (by decide) (fun _ => ?_) (fun c9 => absurd hvb c9)
  have hP : va_P D vwCl (((kv_kw ci ad kc kh ks fo kl kp dy mo n pa aE qp qm ql qv qc qe mt mv sw hv tk tn sc) ++ [((aO, .inl (ci 4, 1, .inr (.inl g))) : Nat × va_E)]) ++ (kv_mw ci md th9 nw co ho ve la pr rg rp rm rc re ro rl mcn mtn mtk msp ba)) H := kv_commP hP
  have hD : va_D (fun q : Nat => s.heap.size ≤ q) (((kv_kw ci ad kc kh ks fo kl kp dy mo n pa aE qp qm ql qv qc qe mt mv sw hv tk tn sc) ++ [((aO, .inl (ci 4, 1, .inr (.inl g))) : Nat × va_E)]) ++ (kv_mw ci md th9 nw co ho ve la pr rg rp rm rc re ro rl mcn mtn mtk msp ba)) := kv_commD hD
  skip
  exact hkk _ _ kc kh ks fo kl kp dy mo n pa aE qp qm ql qv qc qe mt mv sw hv tk tn sc th9 nw co ho ve la pr rg rp rm rc re ro rl mcn mtn mtk msp ba g H locs ls (by omega) (by omega) hI hE hP hD hS hl

set_option maxHeartbeats 4000000 in
set_option maxRecDepth 100000 in
theorem law_c_rights {p : Program} {l : Launch} {en : Env} {s : State} {m : MethodId} {below : List Frame} {meth : Method} {c : Code} {D : va_G} {ci ad md : Nat → Nat} {aS aO b L : Nat} {xs : Nat → Int32} (hL : L ≤ 2560) (hC : law_C p l s m meth c D ci aS b L xs) {a cl sl : Nat} (ha : a + 5 ≤ L) (hcl : cl ≤ 50000) (hsl : sl ≤ 500000) (kc : Nat → Int32) (kh : Nat → Int32) (ks : Nat → Int32) (fo : Nat → Nat → Int32) (kl : Nat → Int32) (kp : Nat → Int32) (dy : Int32) (mo : Int32) (n : Nat) (pa : Nat → Nat) (aE : Nat) (qp : Nat → Int32) (qm : Nat → Int32) (ql : Nat → Int32) (qv : Nat → Int32) (qc : Nat → Int32) (qe : Nat → Int32) (mt : Nat → Int32) (mv : Nat → Int32) (sw : Nat → Int32) (hv : Int32) (tk : Nat → Int32) (tn : Nat → Int32) (sc : Nat → Int32) (th : Int32) (nw : Int32) (co : Nat → Int32) (ho : Nat → Int32) (ve : Nat → Int32) (la : Nat → Int32) (pr : Nat → Int32) (rg : Int32) (rp : Nat → Int32) (rm : Nat → Int32) (rc : Nat → Int32) (re : Nat → Int32) (ro : Nat → Int32) (rl : Nat → Int32) (mcn : Nat → Int32) (mtn : Nat → Int32) (mtk : Nat → Int32) (msp : Nat → Int32) (ba : Int32) (g : Nat → Int64) (hI : kv_inv kc kh fo kl kp dy n qp qm ql qv qc qe sw nw co ho ve la pr rg rp rm rc re ro rl mtk msp) (hE : n = 0 → aE = aS) {H : Heap} {locs : List Loc} {ls : Array Slot} (hP : va_P D vwCl (((kv_kw ci ad kc kh ks fo kl kp dy mo n pa aE qp qm ql qv qc qe mt mv sw hv tk tn sc) ++ [((aO, .inl (ci 4, 1, .inr (.inl g))) : Nat × va_E)]) ++ (kv_mw ci md th nw co ho ve la pr rg rp rm rc re ro rl mcn mtn mtk msp ba)) H) (hD : va_D (fun q : Nat => s.heap.size ≤ q) (((kv_kw ci ad kc kh ks fo kl kp dy mo n pa aE qp qm ql qv qc qe mt mv sw hv tk tn sc) ++ [((aO, .inl (ci 4, 1, .inr (.inl g))) : Nat × va_E)]) ++ (kv_mw ci md th nw co ho ve la pr rg rp rm rc re ro rl mcn mtn mtk msp ba))) (hS : va_S (fun q : Nat => s.heap.size ≤ q) s.heap H locs) (hl : lv_has ls 7 [(0, .ref b), (1, .ref (ad 0)), (2, .ref (md 0)), (3, .ref aO), (4, .int (nI a))]) (hkk : law_K p l en s m below meth c D ci ad md aS aO b (nI a) 1454 (cl + 10) (sl + 60)) : W p l en room_1 s m #[Value.ref b] below meth c H locs cl sl (lw_Z below #[Value.ref b] s) (F0 m 777 ls []) := by
  obtain ⟨⟨hx, hb, hr, hml, hown, hts0, hX, hbl, hlocks, hgv⟩, hl9, hT, hT2, hN, hK⟩ := id hC
  have hown : s.vm.findClass RL = some m.cls := hown
  have hts := fun w h => hts0 w (wsL_law_in w h)
  have hA : ∀ q : Nat, s.heap.size ≤ q → (fun q : Nat => s.heap.size ≤ q) q := fun _ h => h
  have hbA : ¬ (fun q : Nat => s.heap.size ≤ q) b := Nat.not_le.mpr hbl
  obtain ⟨z1, z2, z3⟩ := ag_rights kc kh fo kl kp dy n qp qm ql qv qc qe sw th nw co ho ve la pr rg rp rm rc re ro rl mtk msp hI
  refine lv_aload_n hx hb dL_law_777 rfl (lv_at hl 1 rfl) ?_
  have hP : va_P D vwCl ((kv_kw ci ad kc kh ks fo kl kp dy mo n pa aE qp qm ql qv qc qe mt mv sw hv tk tn sc) ++ ([((aO, .inl (ci 4, 1, .inr (.inl g))) : Nat × va_E)] ++ (kv_mw ci md th nw co ho ve la pr rg rp rm rc re ro rl mcn mtn mtk msp ba))) H := by rw [← List.append_assoc]; exact hP
  have hD : va_D (fun q : Nat => s.heap.size ≤ q) ((kv_kw ci ad kc kh ks fo kl kp dy mo n pa aE qp qm ql qv qc qe mt mv sw hv tk tn sc) ++ ([((aO, .inl (ci 4, 1, .inr (.inl g))) : Nat × va_E)] ++ (kv_mw ci md th nw co ho ve la pr rg rp rm rc re ro rl mcn mtn mtk msp ba))) := by rw [← List.append_assoc]; exact hD
  refine kv_calliF (va_runV (As := []) (rest := []) ⟨hx, hb, hml, hown, hts⟩ (c_X2_rights l D ci ad kc kh ks fo kl kp dy mo n pa aE qp qm ql qv qc qe mt mv sw hv tk tn sc z1 H.size) (cwV 0 hts gL_law_X2_rights rfl rfl rfl (by decide +kernel) ⟨Nat.le_of_ble_eq_true rfl, Nat.le_of_ble_eq_true rfl⟩) (kv_preV hK (kv_Pl hP) (kv_Dl hD) (r := (RX2, TX2, 9)) (q0 := 0) (k := 3) rfl rfl rfl) rfl rfl hl.1 rfl (lv_room (Nat.le_of_ble_eq_true rfl)) dL_law_778 ⟨kv_room1 (by omega), kv_room2 (by omega)⟩) hP hD hS hA (fun v u H locs hw hP hD hS => ?_)
  have hP : va_P D vwCl ((kv_mw ci md th nw co ho ve la pr rg rp rm rc re ro rl mcn mtn mtk msp ba) ++ ((kv_kw ci ad kc kh ks fo kl kp dy mo n pa aE qp qm ql qv qc qe mt mv sw hv tk tn sc) ++ [((aO, .inl (ci 4, 1, .inr (.inl g))) : Nat × va_E)])) H := kv_commP (by rw [List.append_assoc]; exact hP)
  have hD : va_D (fun q : Nat => s.heap.size ≤ q) ((kv_mw ci md th nw co ho ve la pr rg rp rm rc re ro rl mcn mtn mtk msp ba) ++ ((kv_kw ci ad kc kh ks fo kl kp dy mo n pa aE qp qm ql qv qc qe mt mv sw hv tk tn sc) ++ [((aO, .inl (ci 4, 1, .inr (.inl g))) : Nat × va_E)])) := kv_commD (by rw [List.append_assoc]; exact hD)
  refine lv_aload_n hx hb dL_law_781 rfl (lv_at hl 2 rfl) ?_
  refine kv_calliF (va_runV (As := []) (rest := [.int v]) ⟨hx, hb, hml, hown, hts⟩ (c_X3_rights l D ci md th nw co ho ve la pr rg rp rm rc re ro rl mcn mtn mtk msp ba z2 H.size) (cwV 0 hts gL_law_X3_rights rfl rfl rfl (by decide +kernel) ⟨Nat.le_of_ble_eq_true rfl, Nat.le_of_ble_eq_true rfl⟩) (kv_preV hK (kv_Pl hP) (kv_Dl hD) (r := (RX3, TX3, 19)) (q0 := 0) (k := 4) rfl rfl rfl) rfl rfl hl.1 rfl (lv_room (Nat.le_of_ble_eq_true rfl)) dL_law_782 ⟨kv_room1 (by omega), kv_room2 (by omega)⟩) hP hD hS hA (fun b9 th9 H locs hwM hP hD hS => ?_)
  have hvb := z3 v b9 th9 hw hwM
  refine lv_icmp_eq (tgt := 1454) hx hb dL_law_785 (by decide) (fun _ => ?_) (fun c9 => absurd hvb c9)
  have hP : va_P D vwCl (((kv_kw ci ad kc kh ks fo kl kp dy mo n pa aE qp qm ql qv qc qe mt mv sw hv tk tn sc) ++ [((aO, .inl (ci 4, 1, .inr (.inl g))) : Nat × va_E)]) ++ (kv_mw ci md th9 nw co ho ve la pr rg rp rm rc re ro rl mcn mtn mtk msp ba)) H := kv_commP hP
  have hD : va_D (fun q : Nat => s.heap.size ≤ q) (((kv_kw ci ad kc kh ks fo kl kp dy mo n pa aE qp qm ql qv qc qe mt mv sw hv tk tn sc) ++ [((aO, .inl (ci 4, 1, .inr (.inl g))) : Nat × va_E)]) ++ (kv_mw ci md th9 nw co ho ve la pr rg rp rm rc re ro rl mcn mtn mtk msp ba)) := kv_commD hD
  skip
  exact hkk _ _ kc kh ks fo kl kp dy mo n pa aE qp qm ql qv qc qe mt mv sw hv tk tn sc th9 nw co ho ve la pr rg rp rm rc re ro rl mcn mtn mtk msp ba g H locs ls (by omega) (by omega) hI hE hP hD hS hl

set_option maxHeartbeats 4000000 in
set_option maxRecDepth 100000 in
theorem law_c_countOf {p : Program} {l : Launch} {en : Env} {s : State} {m : MethodId} {below : List Frame} {meth : Method} {c : Code} {D : va_G} {ci ad md : Nat → Nat} {aS aO b L : Nat} {xs : Nat → Int32} (hL : L ≤ 2560) (hC : law_C p l s m meth c D ci aS b L xs) {a cl sl : Nat} (ha : a + 5 ≤ L) (hcl : cl ≤ 50000) (hsl : sl ≤ 500000) (kc : Nat → Int32) (kh : Nat → Int32) (ks : Nat → Int32) (fo : Nat → Nat → Int32) (kl : Nat → Int32) (kp : Nat → Int32) (dy : Int32) (mo : Int32) (n : Nat) (pa : Nat → Nat) (aE : Nat) (qp : Nat → Int32) (qm : Nat → Int32) (ql : Nat → Int32) (qv : Nat → Int32) (qc : Nat → Int32) (qe : Nat → Int32) (mt : Nat → Int32) (mv : Nat → Int32) (sw : Nat → Int32) (hv : Int32) (tk : Nat → Int32) (tn : Nat → Int32) (sc : Nat → Int32) (th : Int32) (nw : Int32) (co : Nat → Int32) (ho : Nat → Int32) (ve : Nat → Int32) (la : Nat → Int32) (pr : Nat → Int32) (rg : Int32) (rp : Nat → Int32) (rm : Nat → Int32) (rc : Nat → Int32) (re : Nat → Int32) (ro : Nat → Int32) (rl : Nat → Int32) (mcn : Nat → Int32) (mtn : Nat → Int32) (mtk : Nat → Int32) (msp : Nat → Int32) (ba : Int32) (g : Nat → Int64) (hI : kv_inv kc kh fo kl kp dy n qp qm ql qv qc qe sw nw co ho ve la pr rg rp rm rc re ro rl mtk msp) (hE : n = 0 → aE = aS) {H : Heap} {locs : List Loc} {ls : Array Slot} (hP : va_P D vwCl (((kv_kw ci ad kc kh ks fo kl kp dy mo n pa aE qp qm ql qv qc qe mt mv sw hv tk tn sc) ++ [((aO, .inl (ci 4, 1, .inr (.inl g))) : Nat × va_E)]) ++ (kv_mw ci md th nw co ho ve la pr rg rp rm rc re ro rl mcn mtn mtk msp ba)) H) (hD : va_D (fun q : Nat => s.heap.size ≤ q) (((kv_kw ci ad kc kh ks fo kl kp dy mo n pa aE qp qm ql qv qc qe mt mv sw hv tk tn sc) ++ [((aO, .inl (ci 4, 1, .inr (.inl g))) : Nat × va_E)]) ++ (kv_mw ci md th nw co ho ve la pr rg rp rm rc re ro rl mcn mtn mtk msp ba))) (hS : va_S (fun q : Nat => s.heap.size ≤ q) s.heap H locs) (hl : lv_has ls 7 [(0, .ref b), (1, .ref (ad 0)), (2, .ref (md 0)), (3, .ref aO), (4, .int (nI a))]) (hkk : law_K p l en s m below meth c D ci ad md aS aO b (nI a) 1454 (cl + 10) (sl + 60)) : W p l en room_1 s m #[Value.ref b] below meth c H locs cl sl (lw_Z below #[Value.ref b] s) (F0 m 790 ls []) := by
  obtain ⟨⟨hx, hb, hr, hml, hown, hts0, hX, hbl, hlocks, hgv⟩, hl9, hT, hT2, hN, hK⟩ := id hC
  have hown : s.vm.findClass RL = some m.cls := hown
  have hts := fun w h => hts0 w (wsL_law_in w h)
  have hA : ∀ q : Nat, s.heap.size ≤ q → (fun q : Nat => s.heap.size ≤ q) q := fun _ h => h
  have hbA : ¬ (fun q : Nat => s.heap.size ≤ q) b := Nat.not_le.mpr hbl
  obtain ⟨z0, z1, z2, z3, z4⟩ := ag_countOf kc kh fo kl kp dy n qp qm ql qv qc qe sw th nw co ho ve la pr rg rp rm rc re ro rl mtk msp (xs (nI a + 1).toNatClampNeg) hI
  refine lv_aload_n hx hb dL_law_790 rfl (lv_at hl 1 rfl) ?_
  refine lv_aload_n hx hb dL_law_791 rfl (lv_at hl 0 rfl) ?_
  refine lv_iload hx hb dL_law_792 (lv_at hl 4 rfl) ?_
  refine lv_iconst (v := 1) hx hb dL_law_794 (by decide) ?_
  refine lv_iadd hx hb dL_law_795 ?_
  refine va_sld hx hb hX hbl hbA hS (kv_ix1 (by omega) hL) dL_law_796 ?_
  refine lv_aload_n hx hb dL_law_797 rfl (lv_at hl 3 rfl) ?_
  refine kv_calliF (vx_runSW (As := [.ref (ad 0), .int (xs (nI a + 1).toNatClampNeg), .ref aO]) (rest := []) ⟨hx, hb, hml, hown, hts⟩ (c_L_countOf l hl9 D ci ad aS kc kh ks fo kl kp dy mo n pa aE qp qm ql qv qc qe mt mv sw hv tk tn sc aO g (xs (nI a + 1).toNatClampNeg) z0 z1 H.size) (vx_cwSW 3 hts gL_law_L_countOf rfl rfl rfl (by decide +kernel) ⟨Nat.le_of_ble_eq_true rfl, Nat.le_of_ble_eq_true rfl⟩) (kv_preSW hK (kv_Pl hP) (kv_Dl hD) hT hT2 hN hS hA) rfl rfl hl.1 rfl (lv_room (Nat.le_of_ble_eq_true rfl)) dL_law_798 ⟨kv_room1 (by omega), kv_room2 (by omega)⟩) hP hD hS hA (fun r u H locs hw hP hD hS => ?_)
  obtain ⟨g', hg9⟩ : ∃ z, z = u := ⟨_, rfl⟩
  subst hg9
  have hP : va_P D vwCl (((kv_kw ci ad kc kh ks fo kl kp dy mo n pa aE qp qm ql qv qc qe mt mv sw hv tk tn sc) ++ [((aO, .inl (ci 4, 1, .inr (.inl g'))) : Nat × va_E)]) ++ (kv_mw ci md th nw co ho ve la pr rg rp rm rc re ro rl mcn mtn mtk msp ba)) H := hP
  have hD : va_D (fun q : Nat => s.heap.size ≤ q) (((kv_kw ci ad kc kh ks fo kl kp dy mo n pa aE qp qm ql qv qc qe mt mv sw hv tk tn sc) ++ [((aO, .inl (ci 4, 1, .inr (.inl g'))) : Nat × va_E)]) ++ (kv_mw ci md th nw co ho ve la pr rg rp rm rc re ro rl mcn mtn mtk msp ba)) := hD
  refine lv_istore (lv' := [(5, .int r), (0, .ref b), (1, .ref (ad 0)), (2, .ref (md 0)), (3, .ref aO), (4, .int (nI a))]) hx hb dL_law_801 hl (by decide) rfl (fun ls hl => ?_)
  refine lv_aload_n hx hb dL_law_803 rfl (lv_at hl 3 rfl) ?_
  refine lv_aload_n hx hb dL_law_804 rfl (lv_at hl 1 rfl) ?_
  refine lv_iload hx hb dL_law_805 (lv_at hl 5 rfl) ?_
  refine lv_iconst (v := 1) hx hb dL_law_807 (by decide) ?_
  refine lv_iadd hx hb dL_law_808 ?_
  refine va_sld hx hb hX hbl hbA hS (kv_ix1 (by omega) hL) dL_law_809 ?_
  have hP : va_P D vwCl ((kv_mw ci md th nw co ho ve la pr rg rp rm rc re ro rl mcn mtn mtk msp ba) ++ ((kv_kw ci ad kc kh ks fo kl kp dy mo n pa aE qp qm ql qv qc qe mt mv sw hv tk tn sc) ++ [((aO, .inl (ci 4, 1, .inr (.inl g'))) : Nat × va_E)])) H := kv_commP hP
  have hD : va_D (fun q : Nat => s.heap.size ≤ q) ((kv_mw ci md th nw co ho ve la pr rg rp rm rc re ro rl mcn mtn mtk msp ba) ++ ((kv_kw ci ad kc kh ks fo kl kp dy mo n pa aE qp qm ql qv qc qe mt mv sw hv tk tn sc) ++ [((aO, .inl (ci 4, 1, .inr (.inl g'))) : Nat × va_E)])) := kv_commD hD
  refine kv_calliF (va_runV (As := [.int (xs (nI a + 1).toNatClampNeg)]) (rest := []) ⟨hx, hb, hml, hown, hts⟩ (c_X3_countOf l D ci md th nw co ho ve la pr rg rp rm rc re ro rl mcn mtn mtk msp ba (xs (nI a + 1).toNatClampNeg) z2 H.size) (cwV 1 hts gL_law_X3_countOf rfl rfl rfl (by decide +kernel) ⟨Nat.le_of_ble_eq_true rfl, Nat.le_of_ble_eq_true rfl⟩) (kv_preV hK (kv_Pl hP) (kv_Dl hD) (r := (RX3, TX3, 19)) (q0 := 0) (k := 4) rfl rfl rfl) rfl rfl hl.1 rfl (lv_room (Nat.le_of_ble_eq_true rfl)) dL_law_810 ⟨kv_room1 (by omega), kv_room2 (by omega)⟩) hP hD hS hA (fun b9 u H locs hwM hP hD hS => ?_)
  obtain ⟨th', hg9⟩ : ∃ z, z = u := ⟨_, rfl⟩
  subst hg9
  have hP : va_P D vwCl ((kv_mw ci md th' nw co ho ve la pr rg rp rm rc re ro rl mcn mtn mtk msp ba) ++ ((kv_kw ci ad kc kh ks fo kl kp dy mo n pa aE qp qm ql qv qc qe mt mv sw hv tk tn sc) ++ [((aO, .inl (ci 4, 1, .inr (.inl g'))) : Nat × va_E)])) H := hP
  have hD : va_D (fun q : Nat => s.heap.size ≤ q) ((kv_mw ci md th' nw co ho ve la pr rg rp rm rc re ro rl mcn mtn mtk msp ba) ++ ((kv_kw ci ad kc kh ks fo kl kp dy mo n pa aE qp qm ql qv qc qe mt mv sw hv tk tn sc) ++ [((aO, .inl (ci 4, 1, .inr (.inl g'))) : Nat × va_E)])) := hD
  refine lv_istore (lv' := [(6, .int b9), (5, .int r), (0, .ref b), (1, .ref (ad 0)), (2, .ref (md 0)), (3, .ref aO), (4, .int (nI a))]) hx hb dL_law_813 hl (by decide) rfl (fun ls hl => ?_)
  refine lv_aload_n hx hb dL_law_815 rfl (lv_at hl 4 rfl) ?_
  refine kv_calliF (va_runV (As := []) (rest := []) ⟨hx, hb, hml, hown, hts⟩ (c_X3_thrown l D ci md th' nw co ho ve la pr rg rp rm rc re ro rl mcn mtn mtk msp ba (by unfold pf_X3_thrown; exact fun h => nomatch h) H.size) (cwV 0 hts gL_law_X3_thrown rfl rfl rfl (by decide +kernel) ⟨Nat.le_of_ble_eq_true rfl, Nat.le_of_ble_eq_true rfl⟩) (kv_preV hK (kv_Pl hP) (kv_Dl hD) (r := (RX3, TX3, 19)) (q0 := 0) (k := 4) rfl rfl rfl) rfl rfl hl.1 rfl (lv_room (Nat.le_of_ble_eq_true rfl)) dL_law_816 ⟨kv_room1 (by omega), kv_room2 (by omega)⟩) hP hD hS hA (fun t9 u9 H locs hwT hP hD hS => ?_)
  have ht9 : t9 = th' := (Option.some.inj (show some th' = some t9 from hwT)).symm
  rw [ht9]
  have hP : va_P D vwCl (((kv_kw ci ad kc kh ks fo kl kp dy mo n pa aE qp qm ql qv qc qe mt mv sw hv tk tn sc) ++ [((aO, .inl (ci 4, 1, .inr (.inl g'))) : Nat × va_E)]) ++ (kv_mw ci md th' nw co ho ve la pr rg rp rm rc re ro rl mcn mtn mtk msp ba)) H := kv_commP hP
  have hD : va_D (fun q : Nat => s.heap.size ≤ q) (((kv_kw ci ad kc kh ks fo kl kp dy mo n pa aE qp qm ql qv qc qe mt mv sw hv tk tn sc) ++ [((aO, .inl (ci 4, 1, .inr (.inl g'))) : Nat × va_E)]) ++ (kv_mw ci md th' nw co ho ve la pr rg rp rm rc re ro rl mcn mtn mtk msp ba)) := kv_commD hD
  refine lv_iload hx hb dL_law_819 (lv_at hl 1 rfl) ?_
  rcases hw with ⟨v, hv1, hr0, hg⟩ | ⟨hv1, hr0, hs⟩
  · obtain ⟨y1, y2, y3⟩ := z3 v  b9 th' hv1 hwM
    refine lv_icmp_eq (tgt := 826) hx hb dL_law_821 (by decide) (fun _ => ?_) (fun c9 => absurd (y1.trans hr0.symm) c9)
    refine lv_iload hx hb dL_law_826 (lv_at hl 1 rfl) ?_
    refine lv_if_ne (tgt := 843) hx hb dL_law_828 (by decide) (fun c9 => absurd hr0 c9) (fun _ => ?_)
    refine lv_aload_n hx hb dL_law_831 rfl (lv_at hl 5 rfl) ?_
    refine lv_iconst (v := 0) hx hb dL_law_832 (by decide) ?_
    refine va_lald hx hb hK (kv_Pl hP) (kv_kw ci ad kc kh ks fo kl kp dy mo n pa aE qp qm ql qv qc qe mt mv sw hv tk tn sc).length 4 kv_last rfl (by unfold vp_in; decide) dL_law_833 ?_
    refine lv_iload hx hb dL_law_834 (lv_at hl 0 rfl) ?_
    refine lv_i2l (v := b9.toInt64) hx hb dL_law_836 rfl ?_
    refine W.lcmp hx hb dL_law_837 ?_
    rw [show g' (0 : Int32).toNatClampNeg = b9.toInt64 from by rw [← y2, show g' = vp_updL g 0 v.toInt64 from hg]; rfl, kv_cmp_eq]
    refine lv_if_eq (tgt := 843) hx hb dL_law_838 (by decide) (fun _ => ?_) (fun c9 => absurd rfl c9)
    refine lv_goto (tgt := 1454) hx hb dL_law_843 (by decide) ?_
    exact hkk _ _ kc kh ks fo kl kp dy mo n pa aE qp qm ql qv qc qe mt mv sw hv tk tn sc th' nw co ho ve la pr rg rp rm rc re ro rl mcn mtn mtk msp ba g' H locs ls (by omega) (by omega) y3 hE hP hD hS (lv_sub hl [2, 3, 4, 5, 6] rfl)
  · obtain ⟨y1, y2⟩ := z4 b9 th' hv1 hwM
    refine lv_icmp_eq (tgt := 826) hx hb dL_law_821 (by decide) (fun _ => ?_) (fun c9 => absurd (y1.trans hr0.symm) c9)
    refine lv_iload hx hb dL_law_826 (lv_at hl 1 rfl) ?_
    refine lv_if_ne (tgt := 843) hx hb dL_law_828 (by decide) (fun _ => ?_) (fun c9 => absurd c9 (by rw [hr0]; decide))
    refine lv_goto (tgt := 1454) hx hb dL_law_843 (by decide) ?_
    exact hkk _ _ kc kh ks fo kl kp dy mo n pa aE qp qm ql qv qc qe mt mv sw hv tk tn sc th' nw co ho ve la pr rg rp rm rc re ro rl mcn mtn mtk msp ba g' H locs ls (by omega) (by omega) y2 hE hP hD hS (lv_sub hl [2, 3, 4, 5, 6] rfl)

set_option maxHeartbeats 4000000 in
set_option maxRecDepth 100000 in
theorem law_c_versionOf {p : Program} {l : Launch} {en : Env} {s : State} {m : MethodId} {below : List Frame} {meth : Method} {c : Code} {D : va_G} {ci ad md : Nat → Nat} {aS aO b L : Nat} {xs : Nat → Int32} (hL : L ≤ 2560) (hC : law_C p l s m meth c D ci aS b L xs) {a cl sl : Nat} (ha : a + 5 ≤ L) (hcl : cl ≤ 50000) (hsl : sl ≤ 500000) (kc : Nat → Int32) (kh : Nat → Int32) (ks : Nat → Int32) (fo : Nat → Nat → Int32) (kl : Nat → Int32) (kp : Nat → Int32) (dy : Int32) (mo : Int32) (n : Nat) (pa : Nat → Nat) (aE : Nat) (qp : Nat → Int32) (qm : Nat → Int32) (ql : Nat → Int32) (qv : Nat → Int32) (qc : Nat → Int32) (qe : Nat → Int32) (mt : Nat → Int32) (mv : Nat → Int32) (sw : Nat → Int32) (hv : Int32) (tk : Nat → Int32) (tn : Nat → Int32) (sc : Nat → Int32) (th : Int32) (nw : Int32) (co : Nat → Int32) (ho : Nat → Int32) (ve : Nat → Int32) (la : Nat → Int32) (pr : Nat → Int32) (rg : Int32) (rp : Nat → Int32) (rm : Nat → Int32) (rc : Nat → Int32) (re : Nat → Int32) (ro : Nat → Int32) (rl : Nat → Int32) (mcn : Nat → Int32) (mtn : Nat → Int32) (mtk : Nat → Int32) (msp : Nat → Int32) (ba : Int32) (g : Nat → Int64) (hI : kv_inv kc kh fo kl kp dy n qp qm ql qv qc qe sw nw co ho ve la pr rg rp rm rc re ro rl mtk msp) (hE : n = 0 → aE = aS) {H : Heap} {locs : List Loc} {ls : Array Slot} (hP : va_P D vwCl (((kv_kw ci ad kc kh ks fo kl kp dy mo n pa aE qp qm ql qv qc qe mt mv sw hv tk tn sc) ++ [((aO, .inl (ci 4, 1, .inr (.inl g))) : Nat × va_E)]) ++ (kv_mw ci md th nw co ho ve la pr rg rp rm rc re ro rl mcn mtn mtk msp ba)) H) (hD : va_D (fun q : Nat => s.heap.size ≤ q) (((kv_kw ci ad kc kh ks fo kl kp dy mo n pa aE qp qm ql qv qc qe mt mv sw hv tk tn sc) ++ [((aO, .inl (ci 4, 1, .inr (.inl g))) : Nat × va_E)]) ++ (kv_mw ci md th nw co ho ve la pr rg rp rm rc re ro rl mcn mtn mtk msp ba))) (hS : va_S (fun q : Nat => s.heap.size ≤ q) s.heap H locs) (hl : lv_has ls 7 [(0, .ref b), (1, .ref (ad 0)), (2, .ref (md 0)), (3, .ref aO), (4, .int (nI a))]) (hkk : law_K p l en s m below meth c D ci ad md aS aO b (nI a) 1454 (cl + 10) (sl + 60)) : W p l en room_1 s m #[Value.ref b] below meth c H locs cl sl (lw_Z below #[Value.ref b] s) (F0 m 846 ls []) := by
  obtain ⟨⟨hx, hb, hr, hml, hown, hts0, hX, hbl, hlocks, hgv⟩, hl9, hT, hT2, hN, hK⟩ := id hC
  have hown : s.vm.findClass RL = some m.cls := hown
  have hts := fun w h => hts0 w (wsL_law_in w h)
  have hA : ∀ q : Nat, s.heap.size ≤ q → (fun q : Nat => s.heap.size ≤ q) q := fun _ h => h
  have hbA : ¬ (fun q : Nat => s.heap.size ≤ q) b := Nat.not_le.mpr hbl
  obtain ⟨z0, z1, z2, z3, z4⟩ := ag_versionOf kc kh fo kl kp dy n qp qm ql qv qc qe sw th nw co ho ve la pr rg rp rm rc re ro rl mtk msp (xs (nI a + 1).toNatClampNeg) hI
  refine lv_aload_n hx hb dL_law_846 rfl (lv_at hl 1 rfl) ?_
  refine lv_aload_n hx hb dL_law_847 rfl (lv_at hl 0 rfl) ?_
  refine lv_iload hx hb dL_law_848 (lv_at hl 4 rfl) ?_
  refine lv_iconst (v := 1) hx hb dL_law_850 (by decide) ?_
  refine lv_iadd hx hb dL_law_851 ?_
  refine va_sld hx hb hX hbl hbA hS (kv_ix1 (by omega) hL) dL_law_852 ?_
  refine lv_aload_n hx hb dL_law_853 rfl (lv_at hl 3 rfl) ?_
  refine kv_calliF (vx_runSW (As := [.ref (ad 0), .int (xs (nI a + 1).toNatClampNeg), .ref aO]) (rest := []) ⟨hx, hb, hml, hown, hts⟩ (c_L_versionOf l hl9 D ci ad aS kc kh ks fo kl kp dy mo n pa aE qp qm ql qv qc qe mt mv sw hv tk tn sc aO g (xs (nI a + 1).toNatClampNeg) z0 z1 H.size) (vx_cwSW 3 hts gL_law_L_versionOf rfl rfl rfl (by decide +kernel) ⟨Nat.le_of_ble_eq_true rfl, Nat.le_of_ble_eq_true rfl⟩) (kv_preSW hK (kv_Pl hP) (kv_Dl hD) hT hT2 hN hS hA) rfl rfl hl.1 rfl (lv_room (Nat.le_of_ble_eq_true rfl)) dL_law_854 ⟨kv_room1 (by omega), kv_room2 (by omega)⟩) hP hD hS hA (fun r u H locs hw hP hD hS => ?_)
  obtain ⟨g', hg9⟩ : ∃ z, z = u := ⟨_, rfl⟩
  subst hg9
  have hP : va_P D vwCl (((kv_kw ci ad kc kh ks fo kl kp dy mo n pa aE qp qm ql qv qc qe mt mv sw hv tk tn sc) ++ [((aO, .inl (ci 4, 1, .inr (.inl g'))) : Nat × va_E)]) ++ (kv_mw ci md th nw co ho ve la pr rg rp rm rc re ro rl mcn mtn mtk msp ba)) H := hP
  have hD : va_D (fun q : Nat => s.heap.size ≤ q) (((kv_kw ci ad kc kh ks fo kl kp dy mo n pa aE qp qm ql qv qc qe mt mv sw hv tk tn sc) ++ [((aO, .inl (ci 4, 1, .inr (.inl g'))) : Nat × va_E)]) ++ (kv_mw ci md th nw co ho ve la pr rg rp rm rc re ro rl mcn mtn mtk msp ba)) := hD
  refine lv_istore (lv' := [(5, .int r), (0, .ref b), (1, .ref (ad 0)), (2, .ref (md 0)), (3, .ref aO), (4, .int (nI a))]) hx hb dL_law_857 hl (by decide) rfl (fun ls hl => ?_)
  refine lv_aload_n hx hb dL_law_859 rfl (lv_at hl 3 rfl) ?_
  refine lv_aload_n hx hb dL_law_860 rfl (lv_at hl 1 rfl) ?_
  refine lv_iload hx hb dL_law_861 (lv_at hl 5 rfl) ?_
  refine lv_iconst (v := 1) hx hb dL_law_863 (by decide) ?_
  refine lv_iadd hx hb dL_law_864 ?_
  refine va_sld hx hb hX hbl hbA hS (kv_ix1 (by omega) hL) dL_law_865 ?_
  have hP : va_P D vwCl ((kv_mw ci md th nw co ho ve la pr rg rp rm rc re ro rl mcn mtn mtk msp ba) ++ ((kv_kw ci ad kc kh ks fo kl kp dy mo n pa aE qp qm ql qv qc qe mt mv sw hv tk tn sc) ++ [((aO, .inl (ci 4, 1, .inr (.inl g'))) : Nat × va_E)])) H := kv_commP hP
  have hD : va_D (fun q : Nat => s.heap.size ≤ q) ((kv_mw ci md th nw co ho ve la pr rg rp rm rc re ro rl mcn mtn mtk msp ba) ++ ((kv_kw ci ad kc kh ks fo kl kp dy mo n pa aE qp qm ql qv qc qe mt mv sw hv tk tn sc) ++ [((aO, .inl (ci 4, 1, .inr (.inl g'))) : Nat × va_E)])) := kv_commD hD
  refine kv_calliF (va_runV (As := [.int (xs (nI a + 1).toNatClampNeg)]) (rest := []) ⟨hx, hb, hml, hown, hts⟩ (c_X3_versionOf l D ci md th nw co ho ve la pr rg rp rm rc re ro rl mcn mtn mtk msp ba (xs (nI a + 1).toNatClampNeg) z2 H.size) (cwV 1 hts gL_law_X3_versionOf rfl rfl rfl (by decide +kernel) ⟨Nat.le_of_ble_eq_true rfl, Nat.le_of_ble_eq_true rfl⟩) (kv_preV hK (kv_Pl hP) (kv_Dl hD) (r := (RX3, TX3, 19)) (q0 := 0) (k := 4) rfl rfl rfl) rfl rfl hl.1 rfl (lv_room (Nat.le_of_ble_eq_true rfl)) dL_law_866 ⟨kv_room1 (by omega), kv_room2 (by omega)⟩) hP hD hS hA (fun b9 u H locs hwM hP hD hS => ?_)
  obtain ⟨th', hg9⟩ : ∃ z, z = u := ⟨_, rfl⟩
  subst hg9
  have hP : va_P D vwCl ((kv_mw ci md th' nw co ho ve la pr rg rp rm rc re ro rl mcn mtn mtk msp ba) ++ ((kv_kw ci ad kc kh ks fo kl kp dy mo n pa aE qp qm ql qv qc qe mt mv sw hv tk tn sc) ++ [((aO, .inl (ci 4, 1, .inr (.inl g'))) : Nat × va_E)])) H := hP
  have hD : va_D (fun q : Nat => s.heap.size ≤ q) ((kv_mw ci md th' nw co ho ve la pr rg rp rm rc re ro rl mcn mtn mtk msp ba) ++ ((kv_kw ci ad kc kh ks fo kl kp dy mo n pa aE qp qm ql qv qc qe mt mv sw hv tk tn sc) ++ [((aO, .inl (ci 4, 1, .inr (.inl g'))) : Nat × va_E)])) := hD
  refine lv_istore (lv' := [(6, .int b9), (5, .int r), (0, .ref b), (1, .ref (ad 0)), (2, .ref (md 0)), (3, .ref aO), (4, .int (nI a))]) hx hb dL_law_869 hl (by decide) rfl (fun ls hl => ?_)
  refine lv_aload_n hx hb dL_law_871 rfl (lv_at hl 4 rfl) ?_
  refine kv_calliF (va_runV (As := []) (rest := []) ⟨hx, hb, hml, hown, hts⟩ (c_X3_thrown l D ci md th' nw co ho ve la pr rg rp rm rc re ro rl mcn mtn mtk msp ba (by unfold pf_X3_thrown; exact fun h => nomatch h) H.size) (cwV 0 hts gL_law_X3_thrown rfl rfl rfl (by decide +kernel) ⟨Nat.le_of_ble_eq_true rfl, Nat.le_of_ble_eq_true rfl⟩) (kv_preV hK (kv_Pl hP) (kv_Dl hD) (r := (RX3, TX3, 19)) (q0 := 0) (k := 4) rfl rfl rfl) rfl rfl hl.1 rfl (lv_room (Nat.le_of_ble_eq_true rfl)) dL_law_872 ⟨kv_room1 (by omega), kv_room2 (by omega)⟩) hP hD hS hA (fun t9 u9 H locs hwT hP hD hS => ?_)
  have ht9 : t9 = th' := (Option.some.inj (show some th' = some t9 from hwT)).symm
  rw [ht9]
  have hP : va_P D vwCl (((kv_kw ci ad kc kh ks fo kl kp dy mo n pa aE qp qm ql qv qc qe mt mv sw hv tk tn sc) ++ [((aO, .inl (ci 4, 1, .inr (.inl g'))) : Nat × va_E)]) ++ (kv_mw ci md th' nw co ho ve la pr rg rp rm rc re ro rl mcn mtn mtk msp ba)) H := kv_commP hP
  have hD : va_D (fun q : Nat => s.heap.size ≤ q) (((kv_kw ci ad kc kh ks fo kl kp dy mo n pa aE qp qm ql qv qc qe mt mv sw hv tk tn sc) ++ [((aO, .inl (ci 4, 1, .inr (.inl g'))) : Nat × va_E)]) ++ (kv_mw ci md th' nw co ho ve la pr rg rp rm rc re ro rl mcn mtn mtk msp ba)) := kv_commD hD
  refine lv_iload hx hb dL_law_875 (lv_at hl 1 rfl) ?_
  rcases hw with ⟨v, hv1, hr0, hg⟩ | ⟨hv1, hr0, hs⟩
  · obtain ⟨y1, y2, y3⟩ := z3 v  b9 th' hv1 hwM
    refine lv_icmp_eq (tgt := 882) hx hb dL_law_877 (by decide) (fun _ => ?_) (fun c9 => absurd (y1.trans hr0.symm) c9)
    refine lv_iload hx hb dL_law_882 (lv_at hl 1 rfl) ?_
    refine lv_if_ne (tgt := 899) hx hb dL_law_884 (by decide) (fun c9 => absurd hr0 c9) (fun _ => ?_)
    refine lv_aload_n hx hb dL_law_887 rfl (lv_at hl 5 rfl) ?_
    refine lv_iconst (v := 0) hx hb dL_law_888 (by decide) ?_
    refine va_lald hx hb hK (kv_Pl hP) (kv_kw ci ad kc kh ks fo kl kp dy mo n pa aE qp qm ql qv qc qe mt mv sw hv tk tn sc).length 4 kv_last rfl (by unfold vp_in; decide) dL_law_889 ?_
    refine lv_iload hx hb dL_law_890 (lv_at hl 0 rfl) ?_
    refine lv_i2l (v := b9.toInt64) hx hb dL_law_892 rfl ?_
    refine W.lcmp hx hb dL_law_893 ?_
    rw [show g' (0 : Int32).toNatClampNeg = b9.toInt64 from by rw [← y2, show g' = vp_updL g 0 v.toInt64 from hg]; rfl, kv_cmp_eq]
    refine lv_if_eq (tgt := 899) hx hb dL_law_894 (by decide) (fun _ => ?_) (fun c9 => absurd rfl c9)
    refine lv_goto (tgt := 1454) hx hb dL_law_899 (by decide) ?_
    exact hkk _ _ kc kh ks fo kl kp dy mo n pa aE qp qm ql qv qc qe mt mv sw hv tk tn sc th' nw co ho ve la pr rg rp rm rc re ro rl mcn mtn mtk msp ba g' H locs ls (by omega) (by omega) y3 hE hP hD hS (lv_sub hl [2, 3, 4, 5, 6] rfl)
  · obtain ⟨y1, y2⟩ := z4 b9 th' hv1 hwM
    refine lv_icmp_eq (tgt := 882) hx hb dL_law_877 (by decide) (fun _ => ?_) (fun c9 => absurd (y1.trans hr0.symm) c9)
    refine lv_iload hx hb dL_law_882 (lv_at hl 1 rfl) ?_
    refine lv_if_ne (tgt := 899) hx hb dL_law_884 (by decide) (fun _ => ?_) (fun c9 => absurd c9 (by rw [hr0]; decide))
    refine lv_goto (tgt := 1454) hx hb dL_law_899 (by decide) ?_
    exact hkk _ _ kc kh ks fo kl kp dy mo n pa aE qp qm ql qv qc qe mt mv sw hv tk tn sc th' nw co ho ve la pr rg rp rm rc re ro rl mcn mtn mtk msp ba g' H locs ls (by omega) (by omega) y2 hE hP hD hS (lv_sub hl [2, 3, 4, 5, 6] rfl)

set_option maxHeartbeats 4000000 in
set_option maxRecDepth 100000 in
theorem law_c_latest {p : Program} {l : Launch} {en : Env} {s : State} {m : MethodId} {below : List Frame} {meth : Method} {c : Code} {D : va_G} {ci ad md : Nat → Nat} {aS aO b L : Nat} {xs : Nat → Int32} (hL : L ≤ 2560) (hC : law_C p l s m meth c D ci aS b L xs) {a cl sl : Nat} (ha : a + 5 ≤ L) (hcl : cl ≤ 50000) (hsl : sl ≤ 500000) (kc : Nat → Int32) (kh : Nat → Int32) (ks : Nat → Int32) (fo : Nat → Nat → Int32) (kl : Nat → Int32) (kp : Nat → Int32) (dy : Int32) (mo : Int32) (n : Nat) (pa : Nat → Nat) (aE : Nat) (qp : Nat → Int32) (qm : Nat → Int32) (ql : Nat → Int32) (qv : Nat → Int32) (qc : Nat → Int32) (qe : Nat → Int32) (mt : Nat → Int32) (mv : Nat → Int32) (sw : Nat → Int32) (hv : Int32) (tk : Nat → Int32) (tn : Nat → Int32) (sc : Nat → Int32) (th : Int32) (nw : Int32) (co : Nat → Int32) (ho : Nat → Int32) (ve : Nat → Int32) (la : Nat → Int32) (pr : Nat → Int32) (rg : Int32) (rp : Nat → Int32) (rm : Nat → Int32) (rc : Nat → Int32) (re : Nat → Int32) (ro : Nat → Int32) (rl : Nat → Int32) (mcn : Nat → Int32) (mtn : Nat → Int32) (mtk : Nat → Int32) (msp : Nat → Int32) (ba : Int32) (g : Nat → Int64) (hI : kv_inv kc kh fo kl kp dy n qp qm ql qv qc qe sw nw co ho ve la pr rg rp rm rc re ro rl mtk msp) (hE : n = 0 → aE = aS) {H : Heap} {locs : List Loc} {ls : Array Slot} (hP : va_P D vwCl (((kv_kw ci ad kc kh ks fo kl kp dy mo n pa aE qp qm ql qv qc qe mt mv sw hv tk tn sc) ++ [((aO, .inl (ci 4, 1, .inr (.inl g))) : Nat × va_E)]) ++ (kv_mw ci md th nw co ho ve la pr rg rp rm rc re ro rl mcn mtn mtk msp ba)) H) (hD : va_D (fun q : Nat => s.heap.size ≤ q) (((kv_kw ci ad kc kh ks fo kl kp dy mo n pa aE qp qm ql qv qc qe mt mv sw hv tk tn sc) ++ [((aO, .inl (ci 4, 1, .inr (.inl g))) : Nat × va_E)]) ++ (kv_mw ci md th nw co ho ve la pr rg rp rm rc re ro rl mcn mtn mtk msp ba))) (hS : va_S (fun q : Nat => s.heap.size ≤ q) s.heap H locs) (hl : lv_has ls 7 [(0, .ref b), (1, .ref (ad 0)), (2, .ref (md 0)), (3, .ref aO), (4, .int (nI a))]) (hkk : law_K p l en s m below meth c D ci ad md aS aO b (nI a) 1454 (cl + 10) (sl + 60)) : W p l en room_1 s m #[Value.ref b] below meth c H locs cl sl (lw_Z below #[Value.ref b] s) (F0 m 902 ls []) := by
  obtain ⟨⟨hx, hb, hr, hml, hown, hts0, hX, hbl, hlocks, hgv⟩, hl9, hT, hT2, hN, hK⟩ := id hC
  have hown : s.vm.findClass RL = some m.cls := hown
  have hts := fun w h => hts0 w (wsL_law_in w h)
  have hA : ∀ q : Nat, s.heap.size ≤ q → (fun q : Nat => s.heap.size ≤ q) q := fun _ h => h
  have hbA : ¬ (fun q : Nat => s.heap.size ≤ q) b := Nat.not_le.mpr hbl
  obtain ⟨z0, z1, z2, z3, z4⟩ := ag_latest kc kh fo kl kp dy n qp qm ql qv qc qe sw th nw co ho ve la pr rg rp rm rc re ro rl mtk msp (xs (nI a + 1).toNatClampNeg) hI
  refine lv_aload_n hx hb dL_law_902 rfl (lv_at hl 1 rfl) ?_
  refine lv_aload_n hx hb dL_law_903 rfl (lv_at hl 0 rfl) ?_
  refine lv_iload hx hb dL_law_904 (lv_at hl 4 rfl) ?_
  refine lv_iconst (v := 1) hx hb dL_law_906 (by decide) ?_
  refine lv_iadd hx hb dL_law_907 ?_
  refine va_sld hx hb hX hbl hbA hS (kv_ix1 (by omega) hL) dL_law_908 ?_
  refine lv_aload_n hx hb dL_law_909 rfl (lv_at hl 3 rfl) ?_
  refine kv_calliF (vx_runSW (As := [.ref (ad 0), .int (xs (nI a + 1).toNatClampNeg), .ref aO]) (rest := []) ⟨hx, hb, hml, hown, hts⟩ (c_L_latest l hl9 D ci ad aS kc kh ks fo kl kp dy mo n pa aE qp qm ql qv qc qe mt mv sw hv tk tn sc aO g (xs (nI a + 1).toNatClampNeg) z0 z1 H.size) (vx_cwSW 3 hts gL_law_L_latest rfl rfl rfl (by decide +kernel) ⟨Nat.le_of_ble_eq_true rfl, Nat.le_of_ble_eq_true rfl⟩) (kv_preSW hK (kv_Pl hP) (kv_Dl hD) hT hT2 hN hS hA) rfl rfl hl.1 rfl (lv_room (Nat.le_of_ble_eq_true rfl)) dL_law_910 ⟨kv_room1 (by omega), kv_room2 (by omega)⟩) hP hD hS hA (fun r u H locs hw hP hD hS => ?_)
  obtain ⟨g', hg9⟩ : ∃ z, z = u := ⟨_, rfl⟩
  subst hg9
  have hP : va_P D vwCl (((kv_kw ci ad kc kh ks fo kl kp dy mo n pa aE qp qm ql qv qc qe mt mv sw hv tk tn sc) ++ [((aO, .inl (ci 4, 1, .inr (.inl g'))) : Nat × va_E)]) ++ (kv_mw ci md th nw co ho ve la pr rg rp rm rc re ro rl mcn mtn mtk msp ba)) H := hP
  have hD : va_D (fun q : Nat => s.heap.size ≤ q) (((kv_kw ci ad kc kh ks fo kl kp dy mo n pa aE qp qm ql qv qc qe mt mv sw hv tk tn sc) ++ [((aO, .inl (ci 4, 1, .inr (.inl g'))) : Nat × va_E)]) ++ (kv_mw ci md th nw co ho ve la pr rg rp rm rc re ro rl mcn mtn mtk msp ba)) := hD
  refine lv_istore (lv' := [(5, .int r), (0, .ref b), (1, .ref (ad 0)), (2, .ref (md 0)), (3, .ref aO), (4, .int (nI a))]) hx hb dL_law_913 hl (by decide) rfl (fun ls hl => ?_)
  refine lv_aload_n hx hb dL_law_915 rfl (lv_at hl 3 rfl) ?_
  refine lv_aload_n hx hb dL_law_916 rfl (lv_at hl 1 rfl) ?_
  refine lv_iload hx hb dL_law_917 (lv_at hl 5 rfl) ?_
  refine lv_iconst (v := 1) hx hb dL_law_919 (by decide) ?_
  refine lv_iadd hx hb dL_law_920 ?_
  refine va_sld hx hb hX hbl hbA hS (kv_ix1 (by omega) hL) dL_law_921 ?_
  have hP : va_P D vwCl ((kv_mw ci md th nw co ho ve la pr rg rp rm rc re ro rl mcn mtn mtk msp ba) ++ ((kv_kw ci ad kc kh ks fo kl kp dy mo n pa aE qp qm ql qv qc qe mt mv sw hv tk tn sc) ++ [((aO, .inl (ci 4, 1, .inr (.inl g'))) : Nat × va_E)])) H := kv_commP hP
  have hD : va_D (fun q : Nat => s.heap.size ≤ q) ((kv_mw ci md th nw co ho ve la pr rg rp rm rc re ro rl mcn mtn mtk msp ba) ++ ((kv_kw ci ad kc kh ks fo kl kp dy mo n pa aE qp qm ql qv qc qe mt mv sw hv tk tn sc) ++ [((aO, .inl (ci 4, 1, .inr (.inl g'))) : Nat × va_E)])) := kv_commD hD
  refine kv_calliF (va_runV (As := [.int (xs (nI a + 1).toNatClampNeg)]) (rest := []) ⟨hx, hb, hml, hown, hts⟩ (c_X3_latest l D ci md th nw co ho ve la pr rg rp rm rc re ro rl mcn mtn mtk msp ba (xs (nI a + 1).toNatClampNeg) z2 H.size) (cwV 1 hts gL_law_X3_latest rfl rfl rfl (by decide +kernel) ⟨Nat.le_of_ble_eq_true rfl, Nat.le_of_ble_eq_true rfl⟩) (kv_preV hK (kv_Pl hP) (kv_Dl hD) (r := (RX3, TX3, 19)) (q0 := 0) (k := 4) rfl rfl rfl) rfl rfl hl.1 rfl (lv_room (Nat.le_of_ble_eq_true rfl)) dL_law_922 ⟨kv_room1 (by omega), kv_room2 (by omega)⟩) hP hD hS hA (fun b9 u H locs hwM hP hD hS => ?_)
  obtain ⟨th', hg9⟩ : ∃ z, z = u := ⟨_, rfl⟩
  subst hg9
  have hP : va_P D vwCl ((kv_mw ci md th' nw co ho ve la pr rg rp rm rc re ro rl mcn mtn mtk msp ba) ++ ((kv_kw ci ad kc kh ks fo kl kp dy mo n pa aE qp qm ql qv qc qe mt mv sw hv tk tn sc) ++ [((aO, .inl (ci 4, 1, .inr (.inl g'))) : Nat × va_E)])) H := hP
  have hD : va_D (fun q : Nat => s.heap.size ≤ q) ((kv_mw ci md th' nw co ho ve la pr rg rp rm rc re ro rl mcn mtn mtk msp ba) ++ ((kv_kw ci ad kc kh ks fo kl kp dy mo n pa aE qp qm ql qv qc qe mt mv sw hv tk tn sc) ++ [((aO, .inl (ci 4, 1, .inr (.inl g'))) : Nat × va_E)])) := hD
  refine lv_istore (lv' := [(6, .int b9), (5, .int r), (0, .ref b), (1, .ref (ad 0)), (2, .ref (md 0)), (3, .ref aO), (4, .int (nI a))]) hx hb dL_law_925 hl (by decide) rfl (fun ls hl => ?_)
  refine lv_aload_n hx hb dL_law_927 rfl (lv_at hl 4 rfl) ?_
  refine kv_calliF (va_runV (As := []) (rest := []) ⟨hx, hb, hml, hown, hts⟩ (c_X3_thrown l D ci md th' nw co ho ve la pr rg rp rm rc re ro rl mcn mtn mtk msp ba (by unfold pf_X3_thrown; exact fun h => nomatch h) H.size) (cwV 0 hts gL_law_X3_thrown rfl rfl rfl (by decide +kernel) ⟨Nat.le_of_ble_eq_true rfl, Nat.le_of_ble_eq_true rfl⟩) (kv_preV hK (kv_Pl hP) (kv_Dl hD) (r := (RX3, TX3, 19)) (q0 := 0) (k := 4) rfl rfl rfl) rfl rfl hl.1 rfl (lv_room (Nat.le_of_ble_eq_true rfl)) dL_law_928 ⟨kv_room1 (by omega), kv_room2 (by omega)⟩) hP hD hS hA (fun t9 u9 H locs hwT hP hD hS => ?_)
  have ht9 : t9 = th' := (Option.some.inj (show some th' = some t9 from hwT)).symm
  rw [ht9]
  have hP : va_P D vwCl (((kv_kw ci ad kc kh ks fo kl kp dy mo n pa aE qp qm ql qv qc qe mt mv sw hv tk tn sc) ++ [((aO, .inl (ci 4, 1, .inr (.inl g'))) : Nat × va_E)]) ++ (kv_mw ci md th' nw co ho ve la pr rg rp rm rc re ro rl mcn mtn mtk msp ba)) H := kv_commP hP
  have hD : va_D (fun q : Nat => s.heap.size ≤ q) (((kv_kw ci ad kc kh ks fo kl kp dy mo n pa aE qp qm ql qv qc qe mt mv sw hv tk tn sc) ++ [((aO, .inl (ci 4, 1, .inr (.inl g'))) : Nat × va_E)]) ++ (kv_mw ci md th' nw co ho ve la pr rg rp rm rc re ro rl mcn mtn mtk msp ba)) := kv_commD hD
  refine lv_iload hx hb dL_law_931 (lv_at hl 1 rfl) ?_
  rcases hw with ⟨v, hv1, hr0, hg⟩ | ⟨hv1, hr0, hs⟩
  · obtain ⟨y1, y2, y3⟩ := z3 v  b9 th' hv1 hwM
    refine lv_icmp_eq (tgt := 938) hx hb dL_law_933 (by decide) (fun _ => ?_) (fun c9 => absurd (y1.trans hr0.symm) c9)
    refine lv_iload hx hb dL_law_938 (lv_at hl 1 rfl) ?_
    refine lv_if_ne (tgt := 955) hx hb dL_law_940 (by decide) (fun c9 => absurd hr0 c9) (fun _ => ?_)
    refine lv_aload_n hx hb dL_law_943 rfl (lv_at hl 5 rfl) ?_
    refine lv_iconst (v := 0) hx hb dL_law_944 (by decide) ?_
    refine va_lald hx hb hK (kv_Pl hP) (kv_kw ci ad kc kh ks fo kl kp dy mo n pa aE qp qm ql qv qc qe mt mv sw hv tk tn sc).length 4 kv_last rfl (by unfold vp_in; decide) dL_law_945 ?_
    refine lv_iload hx hb dL_law_946 (lv_at hl 0 rfl) ?_
    refine lv_i2l (v := b9.toInt64) hx hb dL_law_948 rfl ?_
    refine W.lcmp hx hb dL_law_949 ?_
    rw [show g' (0 : Int32).toNatClampNeg = b9.toInt64 from by rw [← y2, show g' = vp_updL g 0 v.toInt64 from hg]; rfl, kv_cmp_eq]
    refine lv_if_eq (tgt := 955) hx hb dL_law_950 (by decide) (fun _ => ?_) (fun c9 => absurd rfl c9)
    refine lv_goto (tgt := 1454) hx hb dL_law_955 (by decide) ?_
    exact hkk _ _ kc kh ks fo kl kp dy mo n pa aE qp qm ql qv qc qe mt mv sw hv tk tn sc th' nw co ho ve la pr rg rp rm rc re ro rl mcn mtn mtk msp ba g' H locs ls (by omega) (by omega) y3 hE hP hD hS (lv_sub hl [2, 3, 4, 5, 6] rfl)
  · obtain ⟨y1, y2⟩ := z4 b9 th' hv1 hwM
    refine lv_icmp_eq (tgt := 938) hx hb dL_law_933 (by decide) (fun _ => ?_) (fun c9 => absurd (y1.trans hr0.symm) c9)
    refine lv_iload hx hb dL_law_938 (lv_at hl 1 rfl) ?_
    refine lv_if_ne (tgt := 955) hx hb dL_law_940 (by decide) (fun _ => ?_) (fun c9 => absurd c9 (by rw [hr0]; decide))
    refine lv_goto (tgt := 1454) hx hb dL_law_955 (by decide) ?_
    exact hkk _ _ kc kh ks fo kl kp dy mo n pa aE qp qm ql qv qc qe mt mv sw hv tk tn sc th' nw co ho ve la pr rg rp rm rc re ro rl mcn mtn mtk msp ba g' H locs ls (by omega) (by omega) y2 hE hP hD hS (lv_sub hl [2, 3, 4, 5, 6] rfl)

set_option maxHeartbeats 4000000 in
set_option maxRecDepth 100000 in
theorem law_c_hostOf {p : Program} {l : Launch} {en : Env} {s : State} {m : MethodId} {below : List Frame} {meth : Method} {c : Code} {D : va_G} {ci ad md : Nat → Nat} {aS aO b L : Nat} {xs : Nat → Int32} (hL : L ≤ 2560) (hC : law_C p l s m meth c D ci aS b L xs) {a cl sl : Nat} (ha : a + 5 ≤ L) (hcl : cl ≤ 50000) (hsl : sl ≤ 500000) (kc : Nat → Int32) (kh : Nat → Int32) (ks : Nat → Int32) (fo : Nat → Nat → Int32) (kl : Nat → Int32) (kp : Nat → Int32) (dy : Int32) (mo : Int32) (n : Nat) (pa : Nat → Nat) (aE : Nat) (qp : Nat → Int32) (qm : Nat → Int32) (ql : Nat → Int32) (qv : Nat → Int32) (qc : Nat → Int32) (qe : Nat → Int32) (mt : Nat → Int32) (mv : Nat → Int32) (sw : Nat → Int32) (hv : Int32) (tk : Nat → Int32) (tn : Nat → Int32) (sc : Nat → Int32) (th : Int32) (nw : Int32) (co : Nat → Int32) (ho : Nat → Int32) (ve : Nat → Int32) (la : Nat → Int32) (pr : Nat → Int32) (rg : Int32) (rp : Nat → Int32) (rm : Nat → Int32) (rc : Nat → Int32) (re : Nat → Int32) (ro : Nat → Int32) (rl : Nat → Int32) (mcn : Nat → Int32) (mtn : Nat → Int32) (mtk : Nat → Int32) (msp : Nat → Int32) (ba : Int32) (g : Nat → Int64) (hI : kv_inv kc kh fo kl kp dy n qp qm ql qv qc qe sw nw co ho ve la pr rg rp rm rc re ro rl mtk msp) (hE : n = 0 → aE = aS) {H : Heap} {locs : List Loc} {ls : Array Slot} (hP : va_P D vwCl (((kv_kw ci ad kc kh ks fo kl kp dy mo n pa aE qp qm ql qv qc qe mt mv sw hv tk tn sc) ++ [((aO, .inl (ci 4, 1, .inr (.inl g))) : Nat × va_E)]) ++ (kv_mw ci md th nw co ho ve la pr rg rp rm rc re ro rl mcn mtn mtk msp ba)) H) (hD : va_D (fun q : Nat => s.heap.size ≤ q) (((kv_kw ci ad kc kh ks fo kl kp dy mo n pa aE qp qm ql qv qc qe mt mv sw hv tk tn sc) ++ [((aO, .inl (ci 4, 1, .inr (.inl g))) : Nat × va_E)]) ++ (kv_mw ci md th nw co ho ve la pr rg rp rm rc re ro rl mcn mtn mtk msp ba))) (hS : va_S (fun q : Nat => s.heap.size ≤ q) s.heap H locs) (hl : lv_has ls 7 [(0, .ref b), (1, .ref (ad 0)), (2, .ref (md 0)), (3, .ref aO), (4, .int (nI a))]) (hkk : law_K p l en s m below meth c D ci ad md aS aO b (nI a) 1454 (cl + 10) (sl + 60)) : W p l en room_1 s m #[Value.ref b] below meth c H locs cl sl (lw_Z below #[Value.ref b] s) (F0 m 958 ls []) := by
  obtain ⟨⟨hx, hb, hr, hml, hown, hts0, hX, hbl, hlocks, hgv⟩, hl9, hT, hT2, hN, hK⟩ := id hC
  have hown : s.vm.findClass RL = some m.cls := hown
  have hts := fun w h => hts0 w (wsL_law_in w h)
  have hA : ∀ q : Nat, s.heap.size ≤ q → (fun q : Nat => s.heap.size ≤ q) q := fun _ h => h
  have hbA : ¬ (fun q : Nat => s.heap.size ≤ q) b := Nat.not_le.mpr hbl
  obtain ⟨z0, z1, z2, z3, z4⟩ := ag_hostOf kc kh fo kl kp dy n qp qm ql qv qc qe sw th nw co ho ve la pr rg rp rm rc re ro rl mtk msp (xs (nI a + 1).toNatClampNeg) hI
  refine lv_aload_n hx hb dL_law_958 rfl (lv_at hl 1 rfl) ?_
  refine lv_aload_n hx hb dL_law_959 rfl (lv_at hl 0 rfl) ?_
  refine lv_iload hx hb dL_law_960 (lv_at hl 4 rfl) ?_
  refine lv_iconst (v := 1) hx hb dL_law_962 (by decide) ?_
  refine lv_iadd hx hb dL_law_963 ?_
  refine va_sld hx hb hX hbl hbA hS (kv_ix1 (by omega) hL) dL_law_964 ?_
  refine lv_aload_n hx hb dL_law_965 rfl (lv_at hl 3 rfl) ?_
  refine kv_calliF (vx_runSW (As := [.ref (ad 0), .int (xs (nI a + 1).toNatClampNeg), .ref aO]) (rest := []) ⟨hx, hb, hml, hown, hts⟩ (c_L_hostOf l hl9 D ci ad aS kc kh ks fo kl kp dy mo n pa aE qp qm ql qv qc qe mt mv sw hv tk tn sc aO g (xs (nI a + 1).toNatClampNeg) z0 z1 H.size) (vx_cwSW 3 hts gL_law_L_hostOf rfl rfl rfl (by decide +kernel) ⟨Nat.le_of_ble_eq_true rfl, Nat.le_of_ble_eq_true rfl⟩) (kv_preSW hK (kv_Pl hP) (kv_Dl hD) hT hT2 hN hS hA) rfl rfl hl.1 rfl (lv_room (Nat.le_of_ble_eq_true rfl)) dL_law_966 ⟨kv_room1 (by omega), kv_room2 (by omega)⟩) hP hD hS hA (fun r u H locs hw hP hD hS => ?_)
  obtain ⟨g', hg9⟩ : ∃ z, z = u := ⟨_, rfl⟩
  subst hg9
  have hP : va_P D vwCl (((kv_kw ci ad kc kh ks fo kl kp dy mo n pa aE qp qm ql qv qc qe mt mv sw hv tk tn sc) ++ [((aO, .inl (ci 4, 1, .inr (.inl g'))) : Nat × va_E)]) ++ (kv_mw ci md th nw co ho ve la pr rg rp rm rc re ro rl mcn mtn mtk msp ba)) H := hP
  have hD : va_D (fun q : Nat => s.heap.size ≤ q) (((kv_kw ci ad kc kh ks fo kl kp dy mo n pa aE qp qm ql qv qc qe mt mv sw hv tk tn sc) ++ [((aO, .inl (ci 4, 1, .inr (.inl g'))) : Nat × va_E)]) ++ (kv_mw ci md th nw co ho ve la pr rg rp rm rc re ro rl mcn mtn mtk msp ba)) := hD
  refine lv_istore (lv' := [(5, .int r), (0, .ref b), (1, .ref (ad 0)), (2, .ref (md 0)), (3, .ref aO), (4, .int (nI a))]) hx hb dL_law_969 hl (by decide) rfl (fun ls hl => ?_)
  refine lv_aload_n hx hb dL_law_971 rfl (lv_at hl 3 rfl) ?_
  refine lv_aload_n hx hb dL_law_972 rfl (lv_at hl 1 rfl) ?_
  refine lv_iload hx hb dL_law_973 (lv_at hl 5 rfl) ?_
  refine lv_iconst (v := 1) hx hb dL_law_975 (by decide) ?_
  refine lv_iadd hx hb dL_law_976 ?_
  refine va_sld hx hb hX hbl hbA hS (kv_ix1 (by omega) hL) dL_law_977 ?_
  have hP : va_P D vwCl ((kv_mw ci md th nw co ho ve la pr rg rp rm rc re ro rl mcn mtn mtk msp ba) ++ ((kv_kw ci ad kc kh ks fo kl kp dy mo n pa aE qp qm ql qv qc qe mt mv sw hv tk tn sc) ++ [((aO, .inl (ci 4, 1, .inr (.inl g'))) : Nat × va_E)])) H := kv_commP hP
  have hD : va_D (fun q : Nat => s.heap.size ≤ q) ((kv_mw ci md th nw co ho ve la pr rg rp rm rc re ro rl mcn mtn mtk msp ba) ++ ((kv_kw ci ad kc kh ks fo kl kp dy mo n pa aE qp qm ql qv qc qe mt mv sw hv tk tn sc) ++ [((aO, .inl (ci 4, 1, .inr (.inl g'))) : Nat × va_E)])) := kv_commD hD
  refine kv_calliF (va_runV (As := [.int (xs (nI a + 1).toNatClampNeg)]) (rest := []) ⟨hx, hb, hml, hown, hts⟩ (c_X3_hostOf l D ci md th nw co ho ve la pr rg rp rm rc re ro rl mcn mtn mtk msp ba (xs (nI a + 1).toNatClampNeg) z2 H.size) (cwV 1 hts gL_law_X3_hostOf rfl rfl rfl (by decide +kernel) ⟨Nat.le_of_ble_eq_true rfl, Nat.le_of_ble_eq_true rfl⟩) (kv_preV hK (kv_Pl hP) (kv_Dl hD) (r := (RX3, TX3, 19)) (q0 := 0) (k := 4) rfl rfl rfl) rfl rfl hl.1 rfl (lv_room (Nat.le_of_ble_eq_true rfl)) dL_law_978 ⟨kv_room1 (by omega), kv_room2 (by omega)⟩) hP hD hS hA (fun b9 u H locs hwM hP hD hS => ?_)
  obtain ⟨th', hg9⟩ : ∃ z, z = u := ⟨_, rfl⟩
  subst hg9
  have hP : va_P D vwCl ((kv_mw ci md th' nw co ho ve la pr rg rp rm rc re ro rl mcn mtn mtk msp ba) ++ ((kv_kw ci ad kc kh ks fo kl kp dy mo n pa aE qp qm ql qv qc qe mt mv sw hv tk tn sc) ++ [((aO, .inl (ci 4, 1, .inr (.inl g'))) : Nat × va_E)])) H := hP
  have hD : va_D (fun q : Nat => s.heap.size ≤ q) ((kv_mw ci md th' nw co ho ve la pr rg rp rm rc re ro rl mcn mtn mtk msp ba) ++ ((kv_kw ci ad kc kh ks fo kl kp dy mo n pa aE qp qm ql qv qc qe mt mv sw hv tk tn sc) ++ [((aO, .inl (ci 4, 1, .inr (.inl g'))) : Nat × va_E)])) := hD
  refine lv_istore (lv' := [(6, .int b9), (5, .int r), (0, .ref b), (1, .ref (ad 0)), (2, .ref (md 0)), (3, .ref aO), (4, .int (nI a))]) hx hb dL_law_981 hl (by decide) rfl (fun ls hl => ?_)
  refine lv_aload_n hx hb dL_law_983 rfl (lv_at hl 4 rfl) ?_
  refine kv_calliF (va_runV (As := []) (rest := []) ⟨hx, hb, hml, hown, hts⟩ (c_X3_thrown l D ci md th' nw co ho ve la pr rg rp rm rc re ro rl mcn mtn mtk msp ba (by unfold pf_X3_thrown; exact fun h => nomatch h) H.size) (cwV 0 hts gL_law_X3_thrown rfl rfl rfl (by decide +kernel) ⟨Nat.le_of_ble_eq_true rfl, Nat.le_of_ble_eq_true rfl⟩) (kv_preV hK (kv_Pl hP) (kv_Dl hD) (r := (RX3, TX3, 19)) (q0 := 0) (k := 4) rfl rfl rfl) rfl rfl hl.1 rfl (lv_room (Nat.le_of_ble_eq_true rfl)) dL_law_984 ⟨kv_room1 (by omega), kv_room2 (by omega)⟩) hP hD hS hA (fun t9 u9 H locs hwT hP hD hS => ?_)
  have ht9 : t9 = th' := (Option.some.inj (show some th' = some t9 from hwT)).symm
  rw [ht9]
  have hP : va_P D vwCl (((kv_kw ci ad kc kh ks fo kl kp dy mo n pa aE qp qm ql qv qc qe mt mv sw hv tk tn sc) ++ [((aO, .inl (ci 4, 1, .inr (.inl g'))) : Nat × va_E)]) ++ (kv_mw ci md th' nw co ho ve la pr rg rp rm rc re ro rl mcn mtn mtk msp ba)) H := kv_commP hP
  have hD : va_D (fun q : Nat => s.heap.size ≤ q) (((kv_kw ci ad kc kh ks fo kl kp dy mo n pa aE qp qm ql qv qc qe mt mv sw hv tk tn sc) ++ [((aO, .inl (ci 4, 1, .inr (.inl g'))) : Nat × va_E)]) ++ (kv_mw ci md th' nw co ho ve la pr rg rp rm rc re ro rl mcn mtn mtk msp ba)) := kv_commD hD
  refine lv_iload hx hb dL_law_987 (lv_at hl 1 rfl) ?_
  rcases hw with ⟨v, hv1, hr0, hg⟩ | ⟨hv1, hr0, hs⟩
  · obtain ⟨y1, y2, y3⟩ := z3 v  b9 th' hv1 hwM
    refine lv_icmp_eq (tgt := 994) hx hb dL_law_989 (by decide) (fun _ => ?_) (fun c9 => absurd (y1.trans hr0.symm) c9)
    refine lv_iload hx hb dL_law_994 (lv_at hl 1 rfl) ?_
    refine lv_if_ne (tgt := 1011) hx hb dL_law_996 (by decide) (fun c9 => absurd hr0 c9) (fun _ => ?_)
    refine lv_aload_n hx hb dL_law_999 rfl (lv_at hl 5 rfl) ?_
    refine lv_iconst (v := 0) hx hb dL_law_1000 (by decide) ?_
    refine va_lald hx hb hK (kv_Pl hP) (kv_kw ci ad kc kh ks fo kl kp dy mo n pa aE qp qm ql qv qc qe mt mv sw hv tk tn sc).length 4 kv_last rfl (by unfold vp_in; decide) dL_law_1001 ?_
    refine lv_iload hx hb dL_law_1002 (lv_at hl 0 rfl) ?_
    refine lv_i2l (v := b9.toInt64) hx hb dL_law_1004 rfl ?_
    refine W.lcmp hx hb dL_law_1005 ?_
    rw [show g' (0 : Int32).toNatClampNeg = b9.toInt64 from by rw [← y2, show g' = vp_updL g 0 v.toInt64 from hg]; rfl, kv_cmp_eq]
    refine lv_if_eq (tgt := 1011) hx hb dL_law_1006 (by decide) (fun _ => ?_) (fun c9 => absurd rfl c9)
    refine lv_goto (tgt := 1454) hx hb dL_law_1011 (by decide) ?_
    exact hkk _ _ kc kh ks fo kl kp dy mo n pa aE qp qm ql qv qc qe mt mv sw hv tk tn sc th' nw co ho ve la pr rg rp rm rc re ro rl mcn mtn mtk msp ba g' H locs ls (by omega) (by omega) y3 hE hP hD hS (lv_sub hl [2, 3, 4, 5, 6] rfl)
  · obtain ⟨y1, y2⟩ := z4 b9 th' hv1 hwM
    refine lv_icmp_eq (tgt := 994) hx hb dL_law_989 (by decide) (fun _ => ?_) (fun c9 => absurd (y1.trans hr0.symm) c9)
    refine lv_iload hx hb dL_law_994 (lv_at hl 1 rfl) ?_
    refine lv_if_ne (tgt := 1011) hx hb dL_law_996 (by decide) (fun _ => ?_) (fun c9 => absurd c9 (by rw [hr0]; decide))
    refine lv_goto (tgt := 1454) hx hb dL_law_1011 (by decide) ?_
    exact hkk _ _ kc kh ks fo kl kp dy mo n pa aE qp qm ql qv qc qe mt mv sw hv tk tn sc th' nw co ho ve la pr rg rp rm rc re ro rl mcn mtn mtk msp ba g' H locs ls (by omega) (by omega) y2 hE hP hD hS (lv_sub hl [2, 3, 4, 5, 6] rfl)

set_option maxHeartbeats 4000000 in
set_option maxRecDepth 100000 in
theorem law_c_weight {p : Program} {l : Launch} {en : Env} {s : State} {m : MethodId} {below : List Frame} {meth : Method} {c : Code} {D : va_G} {ci ad md : Nat → Nat} {aS aO b L : Nat} {xs : Nat → Int32} (hL : L ≤ 2560) (hC : law_C p l s m meth c D ci aS b L xs) {a cl sl : Nat} (ha : a + 5 ≤ L) (hcl : cl ≤ 50000) (hsl : sl ≤ 500000) (kc : Nat → Int32) (kh : Nat → Int32) (ks : Nat → Int32) (fo : Nat → Nat → Int32) (kl : Nat → Int32) (kp : Nat → Int32) (dy : Int32) (mo : Int32) (n : Nat) (pa : Nat → Nat) (aE : Nat) (qp : Nat → Int32) (qm : Nat → Int32) (ql : Nat → Int32) (qv : Nat → Int32) (qc : Nat → Int32) (qe : Nat → Int32) (mt : Nat → Int32) (mv : Nat → Int32) (sw : Nat → Int32) (hv : Int32) (tk : Nat → Int32) (tn : Nat → Int32) (sc : Nat → Int32) (th : Int32) (nw : Int32) (co : Nat → Int32) (ho : Nat → Int32) (ve : Nat → Int32) (la : Nat → Int32) (pr : Nat → Int32) (rg : Int32) (rp : Nat → Int32) (rm : Nat → Int32) (rc : Nat → Int32) (re : Nat → Int32) (ro : Nat → Int32) (rl : Nat → Int32) (mcn : Nat → Int32) (mtn : Nat → Int32) (mtk : Nat → Int32) (msp : Nat → Int32) (ba : Int32) (g : Nat → Int64) (hI : kv_inv kc kh fo kl kp dy n qp qm ql qv qc qe sw nw co ho ve la pr rg rp rm rc re ro rl mtk msp) (hE : n = 0 → aE = aS) {H : Heap} {locs : List Loc} {ls : Array Slot} (hP : va_P D vwCl (((kv_kw ci ad kc kh ks fo kl kp dy mo n pa aE qp qm ql qv qc qe mt mv sw hv tk tn sc) ++ [((aO, .inl (ci 4, 1, .inr (.inl g))) : Nat × va_E)]) ++ (kv_mw ci md th nw co ho ve la pr rg rp rm rc re ro rl mcn mtn mtk msp ba)) H) (hD : va_D (fun q : Nat => s.heap.size ≤ q) (((kv_kw ci ad kc kh ks fo kl kp dy mo n pa aE qp qm ql qv qc qe mt mv sw hv tk tn sc) ++ [((aO, .inl (ci 4, 1, .inr (.inl g))) : Nat × va_E)]) ++ (kv_mw ci md th nw co ho ve la pr rg rp rm rc re ro rl mcn mtn mtk msp ba))) (hS : va_S (fun q : Nat => s.heap.size ≤ q) s.heap H locs) (hl : lv_has ls 7 [(0, .ref b), (1, .ref (ad 0)), (2, .ref (md 0)), (3, .ref aO), (4, .int (nI a))]) (hkk : law_K p l en s m below meth c D ci ad md aS aO b (nI a) 1454 (cl + 10) (sl + 60)) : W p l en room_1 s m #[Value.ref b] below meth c H locs cl sl (lw_Z below #[Value.ref b] s) (F0 m 1014 ls []) := by
  obtain ⟨⟨hx, hb, hr, hml, hown, hts0, hX, hbl, hlocks, hgv⟩, hl9, hT, hT2, hN, hK⟩ := id hC
  have hown : s.vm.findClass RL = some m.cls := hown
  have hts := fun w h => hts0 w (wsL_law_in w h)
  have hA : ∀ q : Nat, s.heap.size ≤ q → (fun q : Nat => s.heap.size ≤ q) q := fun _ h => h
  have hbA : ¬ (fun q : Nat => s.heap.size ≤ q) b := Nat.not_le.mpr hbl
  obtain ⟨z0, z1, z2, z3, z4⟩ := ag_weight kc kh fo kl kp dy n qp qm ql qv qc qe sw th nw co ho ve la pr rg rp rm rc re ro rl mtk msp (xs (nI a + 1).toNatClampNeg) (xs (nI a + 2).toNatClampNeg) hI
  refine lv_aload_n hx hb dL_law_1014 rfl (lv_at hl 1 rfl) ?_
  refine lv_aload_n hx hb dL_law_1015 rfl (lv_at hl 0 rfl) ?_
  refine lv_iload hx hb dL_law_1016 (lv_at hl 4 rfl) ?_
  refine lv_iconst (v := 1) hx hb dL_law_1018 (by decide) ?_
  refine lv_iadd hx hb dL_law_1019 ?_
  refine va_sld hx hb hX hbl hbA hS (kv_ix1 (by omega) hL) dL_law_1020 ?_
  refine lv_aload_n hx hb dL_law_1021 rfl (lv_at hl 0 rfl) ?_
  refine lv_iload hx hb dL_law_1022 (lv_at hl 4 rfl) ?_
  refine lv_iconst (v := 2) hx hb dL_law_1024 (by decide) ?_
  refine lv_iadd hx hb dL_law_1025 ?_
  refine va_sld hx hb hX hbl hbA hS (kv_ix2 (by omega) hL) dL_law_1026 ?_
  refine lv_aload_n hx hb dL_law_1027 rfl (lv_at hl 3 rfl) ?_
  refine kv_calliF (vx_runSW (As := [.ref (ad 0), .int (xs (nI a + 1).toNatClampNeg), .int (xs (nI a + 2).toNatClampNeg), .ref aO]) (rest := []) ⟨hx, hb, hml, hown, hts⟩ (c_L_weight l hl9 D ci ad aS kc kh ks fo kl kp dy mo n pa aE qp qm ql qv qc qe mt mv sw hv tk tn sc aO g (xs (nI a + 1).toNatClampNeg) (xs (nI a + 2).toNatClampNeg) z0 z1 H.size) (vx_cwSW 4 hts gL_law_L_weight rfl rfl rfl (by decide +kernel) ⟨Nat.le_of_ble_eq_true rfl, Nat.le_of_ble_eq_true rfl⟩) (kv_preSW hK (kv_Pl hP) (kv_Dl hD) hT hT2 hN hS hA) rfl rfl hl.1 rfl (lv_room (Nat.le_of_ble_eq_true rfl)) dL_law_1028 ⟨kv_room1 (by omega), kv_room2 (by omega)⟩) hP hD hS hA (fun r u H locs hw hP hD hS => ?_)
  obtain ⟨g', hg9⟩ : ∃ z, z = u := ⟨_, rfl⟩
  subst hg9
  have hP : va_P D vwCl (((kv_kw ci ad kc kh ks fo kl kp dy mo n pa aE qp qm ql qv qc qe mt mv sw hv tk tn sc) ++ [((aO, .inl (ci 4, 1, .inr (.inl g'))) : Nat × va_E)]) ++ (kv_mw ci md th nw co ho ve la pr rg rp rm rc re ro rl mcn mtn mtk msp ba)) H := hP
  have hD : va_D (fun q : Nat => s.heap.size ≤ q) (((kv_kw ci ad kc kh ks fo kl kp dy mo n pa aE qp qm ql qv qc qe mt mv sw hv tk tn sc) ++ [((aO, .inl (ci 4, 1, .inr (.inl g'))) : Nat × va_E)]) ++ (kv_mw ci md th nw co ho ve la pr rg rp rm rc re ro rl mcn mtn mtk msp ba)) := hD
  refine lv_istore (lv' := [(5, .int r), (0, .ref b), (1, .ref (ad 0)), (2, .ref (md 0)), (3, .ref aO), (4, .int (nI a))]) hx hb dL_law_1031 hl (by decide) rfl (fun ls hl => ?_)
  refine lv_aload_n hx hb dL_law_1033 rfl (lv_at hl 3 rfl) ?_
  refine lv_aload_n hx hb dL_law_1034 rfl (lv_at hl 1 rfl) ?_
  refine lv_iload hx hb dL_law_1035 (lv_at hl 5 rfl) ?_
  refine lv_iconst (v := 1) hx hb dL_law_1037 (by decide) ?_
  refine lv_iadd hx hb dL_law_1038 ?_
  refine va_sld hx hb hX hbl hbA hS (kv_ix1 (by omega) hL) dL_law_1039 ?_
  refine lv_aload_n hx hb dL_law_1040 rfl (lv_at hl 1 rfl) ?_
  refine lv_iload hx hb dL_law_1041 (lv_at hl 5 rfl) ?_
  refine lv_iconst (v := 2) hx hb dL_law_1043 (by decide) ?_
  refine lv_iadd hx hb dL_law_1044 ?_
  refine va_sld hx hb hX hbl hbA hS (kv_ix2 (by omega) hL) dL_law_1045 ?_
  have hP : va_P D vwCl ((kv_mw ci md th nw co ho ve la pr rg rp rm rc re ro rl mcn mtn mtk msp ba) ++ ((kv_kw ci ad kc kh ks fo kl kp dy mo n pa aE qp qm ql qv qc qe mt mv sw hv tk tn sc) ++ [((aO, .inl (ci 4, 1, .inr (.inl g'))) : Nat × va_E)])) H := kv_commP hP
  have hD : va_D (fun q : Nat => s.heap.size ≤ q) ((kv_mw ci md th nw co ho ve la pr rg rp rm rc re ro rl mcn mtn mtk msp ba) ++ ((kv_kw ci ad kc kh ks fo kl kp dy mo n pa aE qp qm ql qv qc qe mt mv sw hv tk tn sc) ++ [((aO, .inl (ci 4, 1, .inr (.inl g'))) : Nat × va_E)])) := kv_commD hD
  refine kv_calliF (va_runV (As := [.int (xs (nI a + 1).toNatClampNeg), .int (xs (nI a + 2).toNatClampNeg)]) (rest := []) ⟨hx, hb, hml, hown, hts⟩ (c_X3_weight l D ci md th nw co ho ve la pr rg rp rm rc re ro rl mcn mtn mtk msp ba (xs (nI a + 1).toNatClampNeg) (xs (nI a + 2).toNatClampNeg) z2 H.size) (cwV 2 hts gL_law_X3_weight rfl rfl rfl (by decide +kernel) ⟨Nat.le_of_ble_eq_true rfl, Nat.le_of_ble_eq_true rfl⟩) (kv_preV hK (kv_Pl hP) (kv_Dl hD) (r := (RX3, TX3, 19)) (q0 := 0) (k := 4) rfl rfl rfl) rfl rfl hl.1 rfl (lv_room (Nat.le_of_ble_eq_true rfl)) dL_law_1046 ⟨kv_room1 (by omega), kv_room2 (by omega)⟩) hP hD hS hA (fun b9 u H locs hwM hP hD hS => ?_)
  obtain ⟨th', hg9⟩ : ∃ z, z = u := ⟨_, rfl⟩
  subst hg9
  have hP : va_P D vwCl ((kv_mw ci md th' nw co ho ve la pr rg rp rm rc re ro rl mcn mtn mtk msp ba) ++ ((kv_kw ci ad kc kh ks fo kl kp dy mo n pa aE qp qm ql qv qc qe mt mv sw hv tk tn sc) ++ [((aO, .inl (ci 4, 1, .inr (.inl g'))) : Nat × va_E)])) H := hP
  have hD : va_D (fun q : Nat => s.heap.size ≤ q) ((kv_mw ci md th' nw co ho ve la pr rg rp rm rc re ro rl mcn mtn mtk msp ba) ++ ((kv_kw ci ad kc kh ks fo kl kp dy mo n pa aE qp qm ql qv qc qe mt mv sw hv tk tn sc) ++ [((aO, .inl (ci 4, 1, .inr (.inl g'))) : Nat × va_E)])) := hD
  refine lv_istore (lv' := [(6, .int b9), (5, .int r), (0, .ref b), (1, .ref (ad 0)), (2, .ref (md 0)), (3, .ref aO), (4, .int (nI a))]) hx hb dL_law_1049 hl (by decide) rfl (fun ls hl => ?_)
  refine lv_aload_n hx hb dL_law_1051 rfl (lv_at hl 4 rfl) ?_
  refine kv_calliF (va_runV (As := []) (rest := []) ⟨hx, hb, hml, hown, hts⟩ (c_X3_thrown l D ci md th' nw co ho ve la pr rg rp rm rc re ro rl mcn mtn mtk msp ba (by unfold pf_X3_thrown; exact fun h => nomatch h) H.size) (cwV 0 hts gL_law_X3_thrown rfl rfl rfl (by decide +kernel) ⟨Nat.le_of_ble_eq_true rfl, Nat.le_of_ble_eq_true rfl⟩) (kv_preV hK (kv_Pl hP) (kv_Dl hD) (r := (RX3, TX3, 19)) (q0 := 0) (k := 4) rfl rfl rfl) rfl rfl hl.1 rfl (lv_room (Nat.le_of_ble_eq_true rfl)) dL_law_1052 ⟨kv_room1 (by omega), kv_room2 (by omega)⟩) hP hD hS hA (fun t9 u9 H locs hwT hP hD hS => ?_)
  have ht9 : t9 = th' := (Option.some.inj (show some th' = some t9 from hwT)).symm
  rw [ht9]
  have hP : va_P D vwCl (((kv_kw ci ad kc kh ks fo kl kp dy mo n pa aE qp qm ql qv qc qe mt mv sw hv tk tn sc) ++ [((aO, .inl (ci 4, 1, .inr (.inl g'))) : Nat × va_E)]) ++ (kv_mw ci md th' nw co ho ve la pr rg rp rm rc re ro rl mcn mtn mtk msp ba)) H := kv_commP hP
  have hD : va_D (fun q : Nat => s.heap.size ≤ q) (((kv_kw ci ad kc kh ks fo kl kp dy mo n pa aE qp qm ql qv qc qe mt mv sw hv tk tn sc) ++ [((aO, .inl (ci 4, 1, .inr (.inl g'))) : Nat × va_E)]) ++ (kv_mw ci md th' nw co ho ve la pr rg rp rm rc re ro rl mcn mtn mtk msp ba)) := kv_commD hD
  refine lv_iload hx hb dL_law_1055 (lv_at hl 1 rfl) ?_
  rcases hw with ⟨v, hv1, hr0, hg⟩ | ⟨hv1, hr0, hs⟩
  · obtain ⟨y1, y2, y3⟩ := z3 v  b9 th' hv1 hwM
    refine lv_icmp_eq (tgt := 1062) hx hb dL_law_1057 (by decide) (fun _ => ?_) (fun c9 => absurd (y1.trans hr0.symm) c9)
    refine lv_iload hx hb dL_law_1062 (lv_at hl 1 rfl) ?_
    refine lv_if_ne (tgt := 1079) hx hb dL_law_1064 (by decide) (fun c9 => absurd hr0 c9) (fun _ => ?_)
    refine lv_aload_n hx hb dL_law_1067 rfl (lv_at hl 5 rfl) ?_
    refine lv_iconst (v := 0) hx hb dL_law_1068 (by decide) ?_
    refine va_lald hx hb hK (kv_Pl hP) (kv_kw ci ad kc kh ks fo kl kp dy mo n pa aE qp qm ql qv qc qe mt mv sw hv tk tn sc).length 4 kv_last rfl (by unfold vp_in; decide) dL_law_1069 ?_
    refine lv_iload hx hb dL_law_1070 (lv_at hl 0 rfl) ?_
    refine lv_i2l (v := b9.toInt64) hx hb dL_law_1072 rfl ?_
    refine W.lcmp hx hb dL_law_1073 ?_
    rw [show g' (0 : Int32).toNatClampNeg = b9.toInt64 from by rw [← y2, show g' = vp_updL g 0 v.toInt64 from hg]; rfl, kv_cmp_eq]
    refine lv_if_eq (tgt := 1079) hx hb dL_law_1074 (by decide) (fun _ => ?_) (fun c9 => absurd rfl c9)
    refine lv_goto (tgt := 1454) hx hb dL_law_1079 (by decide) ?_
    exact hkk _ _ kc kh ks fo kl kp dy mo n pa aE qp qm ql qv qc qe mt mv sw hv tk tn sc th' nw co ho ve la pr rg rp rm rc re ro rl mcn mtn mtk msp ba g' H locs ls (by omega) (by omega) y3 hE hP hD hS (lv_sub hl [2, 3, 4, 5, 6] rfl)
  · obtain ⟨y1, y2⟩ := z4 b9 th' hv1 hwM
    refine lv_icmp_eq (tgt := 1062) hx hb dL_law_1057 (by decide) (fun _ => ?_) (fun c9 => absurd (y1.trans hr0.symm) c9)
    refine lv_iload hx hb dL_law_1062 (lv_at hl 1 rfl) ?_
    refine lv_if_ne (tgt := 1079) hx hb dL_law_1064 (by decide) (fun _ => ?_) (fun c9 => absurd c9 (by rw [hr0]; decide))
    refine lv_goto (tgt := 1454) hx hb dL_law_1079 (by decide) ?_
    exact hkk _ _ kc kh ks fo kl kp dy mo n pa aE qp qm ql qv qc qe mt mv sw hv tk tn sc th' nw co ho ve la pr rg rp rm rc re ro rl mcn mtn mtk msp ba g' H locs ls (by omega) (by omega) y2 hE hP hD hS (lv_sub hl [2, 3, 4, 5, 6] rfl)

set_option maxHeartbeats 4000000 in
set_option maxRecDepth 100000 in
theorem law_c_covers {p : Program} {l : Launch} {en : Env} {s : State} {m : MethodId} {below : List Frame} {meth : Method} {c : Code} {D : va_G} {ci ad md : Nat → Nat} {aS aO b L : Nat} {xs : Nat → Int32} (hL : L ≤ 2560) (hC : law_C p l s m meth c D ci aS b L xs) {a cl sl : Nat} (ha : a + 5 ≤ L) (hcl : cl ≤ 50000) (hsl : sl ≤ 500000) (kc : Nat → Int32) (kh : Nat → Int32) (ks : Nat → Int32) (fo : Nat → Nat → Int32) (kl : Nat → Int32) (kp : Nat → Int32) (dy : Int32) (mo : Int32) (n : Nat) (pa : Nat → Nat) (aE : Nat) (qp : Nat → Int32) (qm : Nat → Int32) (ql : Nat → Int32) (qv : Nat → Int32) (qc : Nat → Int32) (qe : Nat → Int32) (mt : Nat → Int32) (mv : Nat → Int32) (sw : Nat → Int32) (hv : Int32) (tk : Nat → Int32) (tn : Nat → Int32) (sc : Nat → Int32) (th : Int32) (nw : Int32) (co : Nat → Int32) (ho : Nat → Int32) (ve : Nat → Int32) (la : Nat → Int32) (pr : Nat → Int32) (rg : Int32) (rp : Nat → Int32) (rm : Nat → Int32) (rc : Nat → Int32) (re : Nat → Int32) (ro : Nat → Int32) (rl : Nat → Int32) (mcn : Nat → Int32) (mtn : Nat → Int32) (mtk : Nat → Int32) (msp : Nat → Int32) (ba : Int32) (g : Nat → Int64) (hI : kv_inv kc kh fo kl kp dy n qp qm ql qv qc qe sw nw co ho ve la pr rg rp rm rc re ro rl mtk msp) (hE : n = 0 → aE = aS) {H : Heap} {locs : List Loc} {ls : Array Slot} (hP : va_P D vwCl (((kv_kw ci ad kc kh ks fo kl kp dy mo n pa aE qp qm ql qv qc qe mt mv sw hv tk tn sc) ++ [((aO, .inl (ci 4, 1, .inr (.inl g))) : Nat × va_E)]) ++ (kv_mw ci md th nw co ho ve la pr rg rp rm rc re ro rl mcn mtn mtk msp ba)) H) (hD : va_D (fun q : Nat => s.heap.size ≤ q) (((kv_kw ci ad kc kh ks fo kl kp dy mo n pa aE qp qm ql qv qc qe mt mv sw hv tk tn sc) ++ [((aO, .inl (ci 4, 1, .inr (.inl g))) : Nat × va_E)]) ++ (kv_mw ci md th nw co ho ve la pr rg rp rm rc re ro rl mcn mtn mtk msp ba))) (hS : va_S (fun q : Nat => s.heap.size ≤ q) s.heap H locs) (hl : lv_has ls 7 [(0, .ref b), (1, .ref (ad 0)), (2, .ref (md 0)), (3, .ref aO), (4, .int (nI a))]) (hkk : law_K p l en s m below meth c D ci ad md aS aO b (nI a) 1454 (cl + 10) (sl + 60)) : W p l en room_1 s m #[Value.ref b] below meth c H locs cl sl (lw_Z below #[Value.ref b] s) (F0 m 1082 ls []) := by
  obtain ⟨⟨hx, hb, hr, hml, hown, hts0, hX, hbl, hlocks, hgv⟩, hl9, hT, hT2, hN, hK⟩ := id hC
  have hown : s.vm.findClass RL = some m.cls := hown
  have hts := fun w h => hts0 w (wsL_law_in w h)
  have hA : ∀ q : Nat, s.heap.size ≤ q → (fun q : Nat => s.heap.size ≤ q) q := fun _ h => h
  have hbA : ¬ (fun q : Nat => s.heap.size ≤ q) b := Nat.not_le.mpr hbl
  obtain ⟨z0, z1, z2, z3, z4⟩ := ag_covers kc kh fo kl kp dy n qp qm ql qv qc qe sw th nw co ho ve la pr rg rp rm rc re ro rl mtk msp (xs (nI a + 1).toNatClampNeg) (xs (nI a + 2).toNatClampNeg) hI
  refine lv_aload_n hx hb dL_law_1082 rfl (lv_at hl 1 rfl) ?_
  refine lv_aload_n hx hb dL_law_1083 rfl (lv_at hl 0 rfl) ?_
  refine lv_iload hx hb dL_law_1084 (lv_at hl 4 rfl) ?_
  refine lv_iconst (v := 1) hx hb dL_law_1086 (by decide) ?_
  refine lv_iadd hx hb dL_law_1087 ?_
  refine va_sld hx hb hX hbl hbA hS (kv_ix1 (by omega) hL) dL_law_1088 ?_
  refine lv_aload_n hx hb dL_law_1089 rfl (lv_at hl 0 rfl) ?_
  refine lv_iload hx hb dL_law_1090 (lv_at hl 4 rfl) ?_
  refine lv_iconst (v := 2) hx hb dL_law_1092 (by decide) ?_
  refine lv_iadd hx hb dL_law_1093 ?_
  refine va_sld hx hb hX hbl hbA hS (kv_ix2 (by omega) hL) dL_law_1094 ?_
  refine lv_aload_n hx hb dL_law_1095 rfl (lv_at hl 3 rfl) ?_
  refine kv_calliF (vx_runSW (As := [.ref (ad 0), .int (xs (nI a + 1).toNatClampNeg), .int (xs (nI a + 2).toNatClampNeg), .ref aO]) (rest := []) ⟨hx, hb, hml, hown, hts⟩ (c_L_covers l hl9 D ci ad aS kc kh ks fo kl kp dy mo n pa aE qp qm ql qv qc qe mt mv sw hv tk tn sc aO g (xs (nI a + 1).toNatClampNeg) (xs (nI a + 2).toNatClampNeg) z0 z1 H.size) (vx_cwSW 4 hts gL_law_L_covers rfl rfl rfl (by decide +kernel) ⟨Nat.le_of_ble_eq_true rfl, Nat.le_of_ble_eq_true rfl⟩) (kv_preSW hK (kv_Pl hP) (kv_Dl hD) hT hT2 hN hS hA) rfl rfl hl.1 rfl (lv_room (Nat.le_of_ble_eq_true rfl)) dL_law_1096 ⟨kv_room1 (by omega), kv_room2 (by omega)⟩) hP hD hS hA (fun r u H locs hw hP hD hS => ?_)
  obtain ⟨g', hg9⟩ : ∃ z, z = u := ⟨_, rfl⟩
  subst hg9
  have hP : va_P D vwCl (((kv_kw ci ad kc kh ks fo kl kp dy mo n pa aE qp qm ql qv qc qe mt mv sw hv tk tn sc) ++ [((aO, .inl (ci 4, 1, .inr (.inl g'))) : Nat × va_E)]) ++ (kv_mw ci md th nw co ho ve la pr rg rp rm rc re ro rl mcn mtn mtk msp ba)) H := hP
  have hD : va_D (fun q : Nat => s.heap.size ≤ q) (((kv_kw ci ad kc kh ks fo kl kp dy mo n pa aE qp qm ql qv qc qe mt mv sw hv tk tn sc) ++ [((aO, .inl (ci 4, 1, .inr (.inl g'))) : Nat × va_E)]) ++ (kv_mw ci md th nw co ho ve la pr rg rp rm rc re ro rl mcn mtn mtk msp ba)) := hD
  refine lv_istore (lv' := [(5, .int r), (0, .ref b), (1, .ref (ad 0)), (2, .ref (md 0)), (3, .ref aO), (4, .int (nI a))]) hx hb dL_law_1099 hl (by decide) rfl (fun ls hl => ?_)
  refine lv_aload_n hx hb dL_law_1101 rfl (lv_at hl 3 rfl) ?_
  refine lv_aload_n hx hb dL_law_1102 rfl (lv_at hl 1 rfl) ?_
  refine lv_iload hx hb dL_law_1103 (lv_at hl 5 rfl) ?_
  refine lv_iconst (v := 1) hx hb dL_law_1105 (by decide) ?_
  refine lv_iadd hx hb dL_law_1106 ?_
  refine va_sld hx hb hX hbl hbA hS (kv_ix1 (by omega) hL) dL_law_1107 ?_
  refine lv_aload_n hx hb dL_law_1108 rfl (lv_at hl 1 rfl) ?_
  refine lv_iload hx hb dL_law_1109 (lv_at hl 5 rfl) ?_
  refine lv_iconst (v := 2) hx hb dL_law_1111 (by decide) ?_
  refine lv_iadd hx hb dL_law_1112 ?_
  refine va_sld hx hb hX hbl hbA hS (kv_ix2 (by omega) hL) dL_law_1113 ?_
  have hP : va_P D vwCl ((kv_mw ci md th nw co ho ve la pr rg rp rm rc re ro rl mcn mtn mtk msp ba) ++ ((kv_kw ci ad kc kh ks fo kl kp dy mo n pa aE qp qm ql qv qc qe mt mv sw hv tk tn sc) ++ [((aO, .inl (ci 4, 1, .inr (.inl g'))) : Nat × va_E)])) H := kv_commP hP
  have hD : va_D (fun q : Nat => s.heap.size ≤ q) ((kv_mw ci md th nw co ho ve la pr rg rp rm rc re ro rl mcn mtn mtk msp ba) ++ ((kv_kw ci ad kc kh ks fo kl kp dy mo n pa aE qp qm ql qv qc qe mt mv sw hv tk tn sc) ++ [((aO, .inl (ci 4, 1, .inr (.inl g'))) : Nat × va_E)])) := kv_commD hD
  refine kv_calliF (va_runV (As := [.int (xs (nI a + 1).toNatClampNeg), .int (xs (nI a + 2).toNatClampNeg)]) (rest := []) ⟨hx, hb, hml, hown, hts⟩ (c_X3_covers l D ci md th nw co ho ve la pr rg rp rm rc re ro rl mcn mtn mtk msp ba (xs (nI a + 1).toNatClampNeg) (xs (nI a + 2).toNatClampNeg) z2 H.size) (cwV 2 hts gL_law_X3_covers rfl rfl rfl (by decide +kernel) ⟨Nat.le_of_ble_eq_true rfl, Nat.le_of_ble_eq_true rfl⟩) (kv_preV hK (kv_Pl hP) (kv_Dl hD) (r := (RX3, TX3, 19)) (q0 := 0) (k := 4) rfl rfl rfl) rfl rfl hl.1 rfl (lv_room (Nat.le_of_ble_eq_true rfl)) dL_law_1114 ⟨kv_room1 (by omega), kv_room2 (by omega)⟩) hP hD hS hA (fun b9 u H locs hwM hP hD hS => ?_)
  obtain ⟨th', hg9⟩ : ∃ z, z = u := ⟨_, rfl⟩
  subst hg9
  have hP : va_P D vwCl ((kv_mw ci md th' nw co ho ve la pr rg rp rm rc re ro rl mcn mtn mtk msp ba) ++ ((kv_kw ci ad kc kh ks fo kl kp dy mo n pa aE qp qm ql qv qc qe mt mv sw hv tk tn sc) ++ [((aO, .inl (ci 4, 1, .inr (.inl g'))) : Nat × va_E)])) H := hP
  have hD : va_D (fun q : Nat => s.heap.size ≤ q) ((kv_mw ci md th' nw co ho ve la pr rg rp rm rc re ro rl mcn mtn mtk msp ba) ++ ((kv_kw ci ad kc kh ks fo kl kp dy mo n pa aE qp qm ql qv qc qe mt mv sw hv tk tn sc) ++ [((aO, .inl (ci 4, 1, .inr (.inl g'))) : Nat × va_E)])) := hD
  refine lv_istore (lv' := [(6, .int b9), (5, .int r), (0, .ref b), (1, .ref (ad 0)), (2, .ref (md 0)), (3, .ref aO), (4, .int (nI a))]) hx hb dL_law_1117 hl (by decide) rfl (fun ls hl => ?_)
  refine lv_aload_n hx hb dL_law_1119 rfl (lv_at hl 4 rfl) ?_
  refine kv_calliF (va_runV (As := []) (rest := []) ⟨hx, hb, hml, hown, hts⟩ (c_X3_thrown l D ci md th' nw co ho ve la pr rg rp rm rc re ro rl mcn mtn mtk msp ba (by unfold pf_X3_thrown; exact fun h => nomatch h) H.size) (cwV 0 hts gL_law_X3_thrown rfl rfl rfl (by decide +kernel) ⟨Nat.le_of_ble_eq_true rfl, Nat.le_of_ble_eq_true rfl⟩) (kv_preV hK (kv_Pl hP) (kv_Dl hD) (r := (RX3, TX3, 19)) (q0 := 0) (k := 4) rfl rfl rfl) rfl rfl hl.1 rfl (lv_room (Nat.le_of_ble_eq_true rfl)) dL_law_1120 ⟨kv_room1 (by omega), kv_room2 (by omega)⟩) hP hD hS hA (fun t9 u9 H locs hwT hP hD hS => ?_)
  have ht9 : t9 = th' := (Option.some.inj (show some th' = some t9 from hwT)).symm
  rw [ht9]
  have hP : va_P D vwCl (((kv_kw ci ad kc kh ks fo kl kp dy mo n pa aE qp qm ql qv qc qe mt mv sw hv tk tn sc) ++ [((aO, .inl (ci 4, 1, .inr (.inl g'))) : Nat × va_E)]) ++ (kv_mw ci md th' nw co ho ve la pr rg rp rm rc re ro rl mcn mtn mtk msp ba)) H := kv_commP hP
  have hD : va_D (fun q : Nat => s.heap.size ≤ q) (((kv_kw ci ad kc kh ks fo kl kp dy mo n pa aE qp qm ql qv qc qe mt mv sw hv tk tn sc) ++ [((aO, .inl (ci 4, 1, .inr (.inl g'))) : Nat × va_E)]) ++ (kv_mw ci md th' nw co ho ve la pr rg rp rm rc re ro rl mcn mtn mtk msp ba)) := kv_commD hD
  refine lv_iload hx hb dL_law_1123 (lv_at hl 1 rfl) ?_
  rcases hw with ⟨v, hv1, hr0, hg⟩ | ⟨hv1, hr0, hs⟩
  · obtain ⟨y1, y2, y3⟩ := z3 v  b9 th' hv1 hwM
    refine lv_icmp_eq (tgt := 1130) hx hb dL_law_1125 (by decide) (fun _ => ?_) (fun c9 => absurd (y1.trans hr0.symm) c9)
    refine lv_iload hx hb dL_law_1130 (lv_at hl 1 rfl) ?_
    refine lv_if_ne (tgt := 1147) hx hb dL_law_1132 (by decide) (fun c9 => absurd hr0 c9) (fun _ => ?_)
    refine lv_aload_n hx hb dL_law_1135 rfl (lv_at hl 5 rfl) ?_
    refine lv_iconst (v := 0) hx hb dL_law_1136 (by decide) ?_
    refine va_lald hx hb hK (kv_Pl hP) (kv_kw ci ad kc kh ks fo kl kp dy mo n pa aE qp qm ql qv qc qe mt mv sw hv tk tn sc).length 4 kv_last rfl (by unfold vp_in; decide) dL_law_1137 ?_
    refine lv_iload hx hb dL_law_1138 (lv_at hl 0 rfl) ?_
    refine lv_i2l (v := b9.toInt64) hx hb dL_law_1140 rfl ?_
    refine W.lcmp hx hb dL_law_1141 ?_
    rw [show g' (0 : Int32).toNatClampNeg = b9.toInt64 from by rw [← y2, show g' = vp_updL g 0 v.toInt64 from hg]; rfl, kv_cmp_eq]
    refine lv_if_eq (tgt := 1147) hx hb dL_law_1142 (by decide) (fun _ => ?_) (fun c9 => absurd rfl c9)
    refine lv_goto (tgt := 1454) hx hb dL_law_1147 (by decide) ?_
    exact hkk _ _ kc kh ks fo kl kp dy mo n pa aE qp qm ql qv qc qe mt mv sw hv tk tn sc th' nw co ho ve la pr rg rp rm rc re ro rl mcn mtn mtk msp ba g' H locs ls (by omega) (by omega) y3 hE hP hD hS (lv_sub hl [2, 3, 4, 5, 6] rfl)
  · obtain ⟨y1, y2⟩ := z4 b9 th' hv1 hwM
    refine lv_icmp_eq (tgt := 1130) hx hb dL_law_1125 (by decide) (fun _ => ?_) (fun c9 => absurd (y1.trans hr0.symm) c9)
    refine lv_iload hx hb dL_law_1130 (lv_at hl 1 rfl) ?_
    refine lv_if_ne (tgt := 1147) hx hb dL_law_1132 (by decide) (fun _ => ?_) (fun c9 => absurd c9 (by rw [hr0]; decide))
    refine lv_goto (tgt := 1454) hx hb dL_law_1147 (by decide) ?_
    exact hkk _ _ kc kh ks fo kl kp dy mo n pa aE qp qm ql qv qc qe mt mv sw hv tk tn sc th' nw co ho ve la pr rg rp rm rc re ro rl mcn mtn mtk msp ba g' H locs ls (by omega) (by omega) y2 hE hP hD hS (lv_sub hl [2, 3, 4, 5, 6] rfl)

set_option maxHeartbeats 4000000 in
set_option maxRecDepth 100000 in
theorem law_c_gap {p : Program} {l : Launch} {en : Env} {s : State} {m : MethodId} {below : List Frame} {meth : Method} {c : Code} {D : va_G} {ci ad md : Nat → Nat} {aS aO b L : Nat} {xs : Nat → Int32} (hL : L ≤ 2560) (hC : law_C p l s m meth c D ci aS b L xs) {a cl sl : Nat} (ha : a + 5 ≤ L) (hcl : cl ≤ 50000) (hsl : sl ≤ 500000) (kc : Nat → Int32) (kh : Nat → Int32) (ks : Nat → Int32) (fo : Nat → Nat → Int32) (kl : Nat → Int32) (kp : Nat → Int32) (dy : Int32) (mo : Int32) (n : Nat) (pa : Nat → Nat) (aE : Nat) (qp : Nat → Int32) (qm : Nat → Int32) (ql : Nat → Int32) (qv : Nat → Int32) (qc : Nat → Int32) (qe : Nat → Int32) (mt : Nat → Int32) (mv : Nat → Int32) (sw : Nat → Int32) (hv : Int32) (tk : Nat → Int32) (tn : Nat → Int32) (sc : Nat → Int32) (th : Int32) (nw : Int32) (co : Nat → Int32) (ho : Nat → Int32) (ve : Nat → Int32) (la : Nat → Int32) (pr : Nat → Int32) (rg : Int32) (rp : Nat → Int32) (rm : Nat → Int32) (rc : Nat → Int32) (re : Nat → Int32) (ro : Nat → Int32) (rl : Nat → Int32) (mcn : Nat → Int32) (mtn : Nat → Int32) (mtk : Nat → Int32) (msp : Nat → Int32) (ba : Int32) (g : Nat → Int64) (hI : kv_inv kc kh fo kl kp dy n qp qm ql qv qc qe sw nw co ho ve la pr rg rp rm rc re ro rl mtk msp) (hE : n = 0 → aE = aS) {H : Heap} {locs : List Loc} {ls : Array Slot} (hP : va_P D vwCl (((kv_kw ci ad kc kh ks fo kl kp dy mo n pa aE qp qm ql qv qc qe mt mv sw hv tk tn sc) ++ [((aO, .inl (ci 4, 1, .inr (.inl g))) : Nat × va_E)]) ++ (kv_mw ci md th nw co ho ve la pr rg rp rm rc re ro rl mcn mtn mtk msp ba)) H) (hD : va_D (fun q : Nat => s.heap.size ≤ q) (((kv_kw ci ad kc kh ks fo kl kp dy mo n pa aE qp qm ql qv qc qe mt mv sw hv tk tn sc) ++ [((aO, .inl (ci 4, 1, .inr (.inl g))) : Nat × va_E)]) ++ (kv_mw ci md th nw co ho ve la pr rg rp rm rc re ro rl mcn mtn mtk msp ba))) (hS : va_S (fun q : Nat => s.heap.size ≤ q) s.heap H locs) (hl : lv_has ls 7 [(0, .ref b), (1, .ref (ad 0)), (2, .ref (md 0)), (3, .ref aO), (4, .int (nI a))]) (hkk : law_K p l en s m below meth c D ci ad md aS aO b (nI a) 1454 (cl + 10) (sl + 60)) : W p l en room_1 s m #[Value.ref b] below meth c H locs cl sl (lw_Z below #[Value.ref b] s) (F0 m 1150 ls []) := by
  obtain ⟨⟨hx, hb, hr, hml, hown, hts0, hX, hbl, hlocks, hgv⟩, hl9, hT, hT2, hN, hK⟩ := id hC
  have hown : s.vm.findClass RL = some m.cls := hown
  have hts := fun w h => hts0 w (wsL_law_in w h)
  have hA : ∀ q : Nat, s.heap.size ≤ q → (fun q : Nat => s.heap.size ≤ q) q := fun _ h => h
  have hbA : ¬ (fun q : Nat => s.heap.size ≤ q) b := Nat.not_le.mpr hbl
  obtain ⟨z0, z1, z2, z3, z4⟩ := ag_gap kc kh fo kl kp dy n qp qm ql qv qc qe mt mv sw hv tk th nw co ho ve la pr rg rp rm rc re ro rl mcn mtn mtk msp ba (xs (nI a + 1).toNatClampNeg) hI
  refine lv_aload_n hx hb dL_law_1150 rfl (lv_at hl 1 rfl) ?_
  refine lv_aload_n hx hb dL_law_1151 rfl (lv_at hl 0 rfl) ?_
  refine lv_iload hx hb dL_law_1152 (lv_at hl 4 rfl) ?_
  refine lv_iconst (v := 1) hx hb dL_law_1154 (by decide) ?_
  refine lv_iadd hx hb dL_law_1155 ?_
  refine va_sld hx hb hX hbl hbA hS (kv_ix1 (by omega) hL) dL_law_1156 ?_
  refine lv_aload_n hx hb dL_law_1157 rfl (lv_at hl 3 rfl) ?_
  refine kv_calliF (vx_runSW (As := [.ref (ad 0), .int (xs (nI a + 1).toNatClampNeg), .ref aO]) (rest := []) ⟨hx, hb, hml, hown, hts⟩ (c_L_gap l hl9 D ci ad aS kc kh ks fo kl kp dy mo n pa aE qp qm ql qv qc qe mt mv sw hv tk tn sc aO g (xs (nI a + 1).toNatClampNeg) z0 z1 H.size) (vx_cwSW 3 hts gL_law_L_gap rfl rfl rfl (by decide +kernel) ⟨Nat.le_of_ble_eq_true rfl, Nat.le_of_ble_eq_true rfl⟩) (kv_preSW hK (kv_Pl hP) (kv_Dl hD) hT hT2 hN hS hA) rfl rfl hl.1 rfl (lv_room (Nat.le_of_ble_eq_true rfl)) dL_law_1158 ⟨kv_room1 (by omega), kv_room2 (by omega)⟩) hP hD hS hA (fun r u H locs hw hP hD hS => ?_)
  obtain ⟨mt', mv', sw', hv', tk', g'⟩ := u
  have hP : va_P D vwCl (((kv_kw ci ad kc kh ks fo kl kp dy mo n pa aE qp qm ql qv qc qe mt' mv' sw' hv' tk' tn sc) ++ [((aO, .inl (ci 4, 1, .inr (.inl g'))) : Nat × va_E)]) ++ (kv_mw ci md th nw co ho ve la pr rg rp rm rc re ro rl mcn mtn mtk msp ba)) H := hP
  have hD : va_D (fun q : Nat => s.heap.size ≤ q) (((kv_kw ci ad kc kh ks fo kl kp dy mo n pa aE qp qm ql qv qc qe mt' mv' sw' hv' tk' tn sc) ++ [((aO, .inl (ci 4, 1, .inr (.inl g'))) : Nat × va_E)]) ++ (kv_mw ci md th nw co ho ve la pr rg rp rm rc re ro rl mcn mtn mtk msp ba)) := hD
  refine lv_istore (lv' := [(5, .int r), (0, .ref b), (1, .ref (ad 0)), (2, .ref (md 0)), (3, .ref aO), (4, .int (nI a))]) hx hb dL_law_1161 hl (by decide) rfl (fun ls hl => ?_)
  refine lv_aload_n hx hb dL_law_1163 rfl (lv_at hl 3 rfl) ?_
  refine lv_aload_n hx hb dL_law_1164 rfl (lv_at hl 1 rfl) ?_
  refine lv_iload hx hb dL_law_1165 (lv_at hl 5 rfl) ?_
  refine lv_iconst (v := 1) hx hb dL_law_1167 (by decide) ?_
  refine lv_iadd hx hb dL_law_1168 ?_
  refine va_sld hx hb hX hbl hbA hS (kv_ix1 (by omega) hL) dL_law_1169 ?_
  have hP : va_P D vwCl ((kv_mw ci md th nw co ho ve la pr rg rp rm rc re ro rl mcn mtn mtk msp ba) ++ ((kv_kw ci ad kc kh ks fo kl kp dy mo n pa aE qp qm ql qv qc qe mt' mv' sw' hv' tk' tn sc) ++ [((aO, .inl (ci 4, 1, .inr (.inl g'))) : Nat × va_E)])) H := kv_commP hP
  have hD : va_D (fun q : Nat => s.heap.size ≤ q) ((kv_mw ci md th nw co ho ve la pr rg rp rm rc re ro rl mcn mtn mtk msp ba) ++ ((kv_kw ci ad kc kh ks fo kl kp dy mo n pa aE qp qm ql qv qc qe mt' mv' sw' hv' tk' tn sc) ++ [((aO, .inl (ci 4, 1, .inr (.inl g'))) : Nat × va_E)])) := kv_commD hD
  refine kv_calliF (va_runV (As := [.int (xs (nI a + 1).toNatClampNeg)]) (rest := []) ⟨hx, hb, hml, hown, hts⟩ (c_X3_gap l D ci md th nw co ho ve la pr rg rp rm rc re ro rl mcn mtn mtk msp ba (xs (nI a + 1).toNatClampNeg) z2 H.size) (cwV 1 hts gL_law_X3_gap rfl rfl rfl (by decide +kernel) ⟨Nat.le_of_ble_eq_true rfl, Nat.le_of_ble_eq_true rfl⟩) (kv_preV hK (kv_Pl hP) (kv_Dl hD) (r := (RX3, TX3, 19)) (q0 := 0) (k := 4) rfl rfl rfl) rfl rfl hl.1 rfl (lv_room (Nat.le_of_ble_eq_true rfl)) dL_law_1170 ⟨kv_room1 (by omega), kv_room2 (by omega)⟩) hP hD hS hA (fun b9 u H locs hwM hP hD hS => ?_)
  obtain ⟨th', mcn', mtn', mtk', msp', ba'⟩ := u
  have hP : va_P D vwCl ((kv_mw ci md th' nw co ho ve la pr rg rp rm rc re ro rl mcn' mtn' mtk' msp' ba') ++ ((kv_kw ci ad kc kh ks fo kl kp dy mo n pa aE qp qm ql qv qc qe mt' mv' sw' hv' tk' tn sc) ++ [((aO, .inl (ci 4, 1, .inr (.inl g'))) : Nat × va_E)])) H := hP
  have hD : va_D (fun q : Nat => s.heap.size ≤ q) ((kv_mw ci md th' nw co ho ve la pr rg rp rm rc re ro rl mcn' mtn' mtk' msp' ba') ++ ((kv_kw ci ad kc kh ks fo kl kp dy mo n pa aE qp qm ql qv qc qe mt' mv' sw' hv' tk' tn sc) ++ [((aO, .inl (ci 4, 1, .inr (.inl g'))) : Nat × va_E)])) := hD
  refine lv_istore (lv' := [(6, .int b9), (5, .int r), (0, .ref b), (1, .ref (ad 0)), (2, .ref (md 0)), (3, .ref aO), (4, .int (nI a))]) hx hb dL_law_1173 hl (by decide) rfl (fun ls hl => ?_)
  refine lv_aload_n hx hb dL_law_1175 rfl (lv_at hl 4 rfl) ?_
  refine kv_calliF (va_runV (As := []) (rest := []) ⟨hx, hb, hml, hown, hts⟩ (c_X3_thrown l D ci md th' nw co ho ve la pr rg rp rm rc re ro rl mcn' mtn' mtk' msp' ba' (by unfold pf_X3_thrown; exact fun h => nomatch h) H.size) (cwV 0 hts gL_law_X3_thrown rfl rfl rfl (by decide +kernel) ⟨Nat.le_of_ble_eq_true rfl, Nat.le_of_ble_eq_true rfl⟩) (kv_preV hK (kv_Pl hP) (kv_Dl hD) (r := (RX3, TX3, 19)) (q0 := 0) (k := 4) rfl rfl rfl) rfl rfl hl.1 rfl (lv_room (Nat.le_of_ble_eq_true rfl)) dL_law_1176 ⟨kv_room1 (by omega), kv_room2 (by omega)⟩) hP hD hS hA (fun t9 u9 H locs hwT hP hD hS => ?_)
  have ht9 : t9 = th' := (Option.some.inj (show some th' = some t9 from hwT)).symm
  rw [ht9]
  have hP : va_P D vwCl (((kv_kw ci ad kc kh ks fo kl kp dy mo n pa aE qp qm ql qv qc qe mt' mv' sw' hv' tk' tn sc) ++ [((aO, .inl (ci 4, 1, .inr (.inl g'))) : Nat × va_E)]) ++ (kv_mw ci md th' nw co ho ve la pr rg rp rm rc re ro rl mcn' mtn' mtk' msp' ba')) H := kv_commP hP
  have hD : va_D (fun q : Nat => s.heap.size ≤ q) (((kv_kw ci ad kc kh ks fo kl kp dy mo n pa aE qp qm ql qv qc qe mt' mv' sw' hv' tk' tn sc) ++ [((aO, .inl (ci 4, 1, .inr (.inl g'))) : Nat × va_E)]) ++ (kv_mw ci md th' nw co ho ve la pr rg rp rm rc re ro rl mcn' mtn' mtk' msp' ba')) := kv_commD hD
  refine lv_iload hx hb dL_law_1179 (lv_at hl 1 rfl) ?_
  rcases hw with ⟨v, hv1, hr0, hg⟩ | ⟨hv1, hr0, hs⟩
  · obtain ⟨y1, y2, y3⟩ := z3 v mt' mv' sw' hv' tk' b9 th' mcn' mtn' mtk' msp' ba' hv1 hwM
    refine lv_icmp_eq (tgt := 1186) hx hb dL_law_1181 (by decide) (fun _ => ?_) (fun c9 => absurd (y1.trans hr0.symm) c9)
    refine lv_iload hx hb dL_law_1186 (lv_at hl 1 rfl) ?_
    refine lv_if_ne (tgt := 1203) hx hb dL_law_1188 (by decide) (fun c9 => absurd hr0 c9) (fun _ => ?_)
    refine lv_aload_n hx hb dL_law_1191 rfl (lv_at hl 5 rfl) ?_
    refine lv_iconst (v := 0) hx hb dL_law_1192 (by decide) ?_
    refine va_lald hx hb hK (kv_Pl hP) (kv_kw ci ad kc kh ks fo kl kp dy mo n pa aE qp qm ql qv qc qe mt' mv' sw' hv' tk' tn sc).length 4 kv_last rfl (by unfold vp_in; decide) dL_law_1193 ?_
    refine lv_iload hx hb dL_law_1194 (lv_at hl 0 rfl) ?_
    refine lv_i2l (v := b9.toInt64) hx hb dL_law_1196 rfl ?_
    refine W.lcmp hx hb dL_law_1197 ?_
    rw [show g' (0 : Int32).toNatClampNeg = b9.toInt64 from by rw [← y2, show g' = vp_updL g 0 v.toInt64 from hg]; rfl, kv_cmp_eq]
    refine lv_if_eq (tgt := 1203) hx hb dL_law_1198 (by decide) (fun _ => ?_) (fun c9 => absurd rfl c9)
    refine lv_goto (tgt := 1454) hx hb dL_law_1203 (by decide) ?_
    exact hkk _ _ kc kh ks fo kl kp dy mo n pa aE qp qm ql qv qc qe mt' mv' sw' hv' tk' tn sc th' nw co ho ve la pr rg rp rm rc re ro rl mcn' mtn' mtk' msp' ba' g' H locs ls (by omega) (by omega) y3 hE hP hD hS (lv_sub hl [2, 3, 4, 5, 6] rfl)
  · obtain ⟨y1, y2⟩ := z4 b9 th' mcn' mtn' mtk' msp' ba' hv1 hwM
    obtain ⟨w0, w1, w2, w3, w4, w5⟩ := hs
    have hP : va_P D vwCl (((kv_kw ci ad kc kh ks fo kl kp dy mo n pa aE qp qm ql qv qc qe mt mv sw hv tk tn sc) ++ [((aO, .inl (ci 4, 1, .inr (.inl g'))) : Nat × va_E)]) ++ (kv_mw ci md th' nw co ho ve la pr rg rp rm rc re ro rl mcn' mtn' mtk' msp' ba')) H := by rw [← show mt' = mt from w0, ← show mv' = mv from w1, ← show sw' = sw from w2, ← show hv' = hv from w3, ← show tk' = tk from w4]; exact hP
    have hD : va_D (fun q : Nat => s.heap.size ≤ q) (((kv_kw ci ad kc kh ks fo kl kp dy mo n pa aE qp qm ql qv qc qe mt mv sw hv tk tn sc) ++ [((aO, .inl (ci 4, 1, .inr (.inl g'))) : Nat × va_E)]) ++ (kv_mw ci md th' nw co ho ve la pr rg rp rm rc re ro rl mcn' mtn' mtk' msp' ba')) := by rw [← show mt' = mt from w0, ← show mv' = mv from w1, ← show sw' = sw from w2, ← show hv' = hv from w3, ← show tk' = tk from w4]; exact hD
    refine lv_icmp_eq (tgt := 1186) hx hb dL_law_1181 (by decide) (fun _ => ?_) (fun c9 => absurd (y1.trans hr0.symm) c9)
    refine lv_iload hx hb dL_law_1186 (lv_at hl 1 rfl) ?_
    refine lv_if_ne (tgt := 1203) hx hb dL_law_1188 (by decide) (fun _ => ?_) (fun c9 => absurd c9 (by rw [hr0]; decide))
    refine lv_goto (tgt := 1454) hx hb dL_law_1203 (by decide) ?_
    exact hkk _ _ kc kh ks fo kl kp dy mo n pa aE qp qm ql qv qc qe mt mv sw hv tk tn sc th' nw co ho ve la pr rg rp rm rc re ro rl mcn' mtn' mtk' msp' ba' g' H locs ls (by omega) (by omega) y2 hE hP hD hS (lv_sub hl [2, 3, 4, 5, 6] rfl)

set_option maxHeartbeats 4000000 in
set_option maxRecDepth 100000 in
theorem law_c_uncovered {p : Program} {l : Launch} {en : Env} {s : State} {m : MethodId} {below : List Frame} {meth : Method} {c : Code} {D : va_G} {ci ad md : Nat → Nat} {aS aO b L : Nat} {xs : Nat → Int32} (hL : L ≤ 2560) (hC : law_C p l s m meth c D ci aS b L xs) {a cl sl : Nat} (ha : a + 5 ≤ L) (hcl : cl ≤ 50000) (hsl : sl ≤ 500000) (kc : Nat → Int32) (kh : Nat → Int32) (ks : Nat → Int32) (fo : Nat → Nat → Int32) (kl : Nat → Int32) (kp : Nat → Int32) (dy : Int32) (mo : Int32) (n : Nat) (pa : Nat → Nat) (aE : Nat) (qp : Nat → Int32) (qm : Nat → Int32) (ql : Nat → Int32) (qv : Nat → Int32) (qc : Nat → Int32) (qe : Nat → Int32) (mt : Nat → Int32) (mv : Nat → Int32) (sw : Nat → Int32) (hv : Int32) (tk : Nat → Int32) (tn : Nat → Int32) (sc : Nat → Int32) (th : Int32) (nw : Int32) (co : Nat → Int32) (ho : Nat → Int32) (ve : Nat → Int32) (la : Nat → Int32) (pr : Nat → Int32) (rg : Int32) (rp : Nat → Int32) (rm : Nat → Int32) (rc : Nat → Int32) (re : Nat → Int32) (ro : Nat → Int32) (rl : Nat → Int32) (mcn : Nat → Int32) (mtn : Nat → Int32) (mtk : Nat → Int32) (msp : Nat → Int32) (ba : Int32) (g : Nat → Int64) (hI : kv_inv kc kh fo kl kp dy n qp qm ql qv qc qe sw nw co ho ve la pr rg rp rm rc re ro rl mtk msp) (hE : n = 0 → aE = aS) {H : Heap} {locs : List Loc} {ls : Array Slot} (hP : va_P D vwCl (((kv_kw ci ad kc kh ks fo kl kp dy mo n pa aE qp qm ql qv qc qe mt mv sw hv tk tn sc) ++ [((aO, .inl (ci 4, 1, .inr (.inl g))) : Nat × va_E)]) ++ (kv_mw ci md th nw co ho ve la pr rg rp rm rc re ro rl mcn mtn mtk msp ba)) H) (hD : va_D (fun q : Nat => s.heap.size ≤ q) (((kv_kw ci ad kc kh ks fo kl kp dy mo n pa aE qp qm ql qv qc qe mt mv sw hv tk tn sc) ++ [((aO, .inl (ci 4, 1, .inr (.inl g))) : Nat × va_E)]) ++ (kv_mw ci md th nw co ho ve la pr rg rp rm rc re ro rl mcn mtn mtk msp ba))) (hS : va_S (fun q : Nat => s.heap.size ≤ q) s.heap H locs) (hl : lv_has ls 7 [(0, .ref b), (1, .ref (ad 0)), (2, .ref (md 0)), (3, .ref aO), (4, .int (nI a))]) (hkk : law_K p l en s m below meth c D ci ad md aS aO b (nI a) 1454 (cl + 10) (sl + 60)) : W p l en room_1 s m #[Value.ref b] below meth c H locs cl sl (lw_Z below #[Value.ref b] s) (F0 m 1206 ls []) := by
  obtain ⟨⟨hx, hb, hr, hml, hown, hts0, hX, hbl, hlocks, hgv⟩, hl9, hT, hT2, hN, hK⟩ := id hC
  have hown : s.vm.findClass RL = some m.cls := hown
  have hts := fun w h => hts0 w (wsL_law_in w h)
  have hA : ∀ q : Nat, s.heap.size ≤ q → (fun q : Nat => s.heap.size ≤ q) q := fun _ h => h
  have hbA : ¬ (fun q : Nat => s.heap.size ≤ q) b := Nat.not_le.mpr hbl
  obtain ⟨z0, z1, z2, z3, z4⟩ := ag_uncovered kc kh fo kl kp dy n qp qm ql qv qc qe mt mv sw hv tk th nw co ho ve la pr rg rp rm rc re ro rl mcn mtn mtk msp ba (xs (nI a + 1).toNatClampNeg) hI
  refine lv_aload_n hx hb dL_law_1206 rfl (lv_at hl 1 rfl) ?_
  refine lv_aload_n hx hb dL_law_1207 rfl (lv_at hl 0 rfl) ?_
  refine lv_iload hx hb dL_law_1208 (lv_at hl 4 rfl) ?_
  refine lv_iconst (v := 1) hx hb dL_law_1210 (by decide) ?_
  refine lv_iadd hx hb dL_law_1211 ?_
  refine va_sld hx hb hX hbl hbA hS (kv_ix1 (by omega) hL) dL_law_1212 ?_
  refine lv_aload_n hx hb dL_law_1213 rfl (lv_at hl 3 rfl) ?_
  refine kv_calliF (vx_runSW (As := [.ref (ad 0), .int (xs (nI a + 1).toNatClampNeg), .ref aO]) (rest := []) ⟨hx, hb, hml, hown, hts⟩ (c_L_uncovered l hl9 D ci ad aS kc kh ks fo kl kp dy mo n pa aE qp qm ql qv qc qe mt mv sw hv tk tn sc aO g (xs (nI a + 1).toNatClampNeg) z0 z1 H.size) (vx_cwSW 3 hts gL_law_L_uncovered rfl rfl rfl (by decide +kernel) ⟨Nat.le_of_ble_eq_true rfl, Nat.le_of_ble_eq_true rfl⟩) (kv_preSW hK (kv_Pl hP) (kv_Dl hD) hT hT2 hN hS hA) rfl rfl hl.1 rfl (lv_room (Nat.le_of_ble_eq_true rfl)) dL_law_1214 ⟨kv_room1 (by omega), kv_room2 (by omega)⟩) hP hD hS hA (fun r u H locs hw hP hD hS => ?_)
  obtain ⟨mt', mv', sw', hv', tk', g'⟩ := u
  have hP : va_P D vwCl (((kv_kw ci ad kc kh ks fo kl kp dy mo n pa aE qp qm ql qv qc qe mt' mv' sw' hv' tk' tn sc) ++ [((aO, .inl (ci 4, 1, .inr (.inl g'))) : Nat × va_E)]) ++ (kv_mw ci md th nw co ho ve la pr rg rp rm rc re ro rl mcn mtn mtk msp ba)) H := hP
  have hD : va_D (fun q : Nat => s.heap.size ≤ q) (((kv_kw ci ad kc kh ks fo kl kp dy mo n pa aE qp qm ql qv qc qe mt' mv' sw' hv' tk' tn sc) ++ [((aO, .inl (ci 4, 1, .inr (.inl g'))) : Nat × va_E)]) ++ (kv_mw ci md th nw co ho ve la pr rg rp rm rc re ro rl mcn mtn mtk msp ba)) := hD
  refine lv_istore (lv' := [(5, .int r), (0, .ref b), (1, .ref (ad 0)), (2, .ref (md 0)), (3, .ref aO), (4, .int (nI a))]) hx hb dL_law_1217 hl (by decide) rfl (fun ls hl => ?_)
  refine lv_aload_n hx hb dL_law_1219 rfl (lv_at hl 3 rfl) ?_
  refine lv_aload_n hx hb dL_law_1220 rfl (lv_at hl 1 rfl) ?_
  refine lv_iload hx hb dL_law_1221 (lv_at hl 5 rfl) ?_
  refine lv_iconst (v := 1) hx hb dL_law_1223 (by decide) ?_
  refine lv_iadd hx hb dL_law_1224 ?_
  refine va_sld hx hb hX hbl hbA hS (kv_ix1 (by omega) hL) dL_law_1225 ?_
  have hP : va_P D vwCl ((kv_mw ci md th nw co ho ve la pr rg rp rm rc re ro rl mcn mtn mtk msp ba) ++ ((kv_kw ci ad kc kh ks fo kl kp dy mo n pa aE qp qm ql qv qc qe mt' mv' sw' hv' tk' tn sc) ++ [((aO, .inl (ci 4, 1, .inr (.inl g'))) : Nat × va_E)])) H := kv_commP hP
  have hD : va_D (fun q : Nat => s.heap.size ≤ q) ((kv_mw ci md th nw co ho ve la pr rg rp rm rc re ro rl mcn mtn mtk msp ba) ++ ((kv_kw ci ad kc kh ks fo kl kp dy mo n pa aE qp qm ql qv qc qe mt' mv' sw' hv' tk' tn sc) ++ [((aO, .inl (ci 4, 1, .inr (.inl g'))) : Nat × va_E)])) := kv_commD hD
  refine kv_calliF (va_runV (As := [.int (xs (nI a + 1).toNatClampNeg)]) (rest := []) ⟨hx, hb, hml, hown, hts⟩ (c_X3_uncovered l D ci md th nw co ho ve la pr rg rp rm rc re ro rl mcn mtn mtk msp ba (xs (nI a + 1).toNatClampNeg) z2 H.size) (cwV 1 hts gL_law_X3_uncovered rfl rfl rfl (by decide +kernel) ⟨Nat.le_of_ble_eq_true rfl, Nat.le_of_ble_eq_true rfl⟩) (kv_preV hK (kv_Pl hP) (kv_Dl hD) (r := (RX3, TX3, 19)) (q0 := 0) (k := 4) rfl rfl rfl) rfl rfl hl.1 rfl (lv_room (Nat.le_of_ble_eq_true rfl)) dL_law_1226 ⟨kv_room1 (by omega), kv_room2 (by omega)⟩) hP hD hS hA (fun b9 u H locs hwM hP hD hS => ?_)
  obtain ⟨th', mcn', mtn', mtk', msp', ba'⟩ := u
  have hP : va_P D vwCl ((kv_mw ci md th' nw co ho ve la pr rg rp rm rc re ro rl mcn' mtn' mtk' msp' ba') ++ ((kv_kw ci ad kc kh ks fo kl kp dy mo n pa aE qp qm ql qv qc qe mt' mv' sw' hv' tk' tn sc) ++ [((aO, .inl (ci 4, 1, .inr (.inl g'))) : Nat × va_E)])) H := hP
  have hD : va_D (fun q : Nat => s.heap.size ≤ q) ((kv_mw ci md th' nw co ho ve la pr rg rp rm rc re ro rl mcn' mtn' mtk' msp' ba') ++ ((kv_kw ci ad kc kh ks fo kl kp dy mo n pa aE qp qm ql qv qc qe mt' mv' sw' hv' tk' tn sc) ++ [((aO, .inl (ci 4, 1, .inr (.inl g'))) : Nat × va_E)])) := hD
  refine lv_istore (lv' := [(6, .int b9), (5, .int r), (0, .ref b), (1, .ref (ad 0)), (2, .ref (md 0)), (3, .ref aO), (4, .int (nI a))]) hx hb dL_law_1229 hl (by decide) rfl (fun ls hl => ?_)
  refine lv_aload_n hx hb dL_law_1231 rfl (lv_at hl 4 rfl) ?_
  refine kv_calliF (va_runV (As := []) (rest := []) ⟨hx, hb, hml, hown, hts⟩ (c_X3_thrown l D ci md th' nw co ho ve la pr rg rp rm rc re ro rl mcn' mtn' mtk' msp' ba' (by unfold pf_X3_thrown; exact fun h => nomatch h) H.size) (cwV 0 hts gL_law_X3_thrown rfl rfl rfl (by decide +kernel) ⟨Nat.le_of_ble_eq_true rfl, Nat.le_of_ble_eq_true rfl⟩) (kv_preV hK (kv_Pl hP) (kv_Dl hD) (r := (RX3, TX3, 19)) (q0 := 0) (k := 4) rfl rfl rfl) rfl rfl hl.1 rfl (lv_room (Nat.le_of_ble_eq_true rfl)) dL_law_1232 ⟨kv_room1 (by omega), kv_room2 (by omega)⟩) hP hD hS hA (fun t9 u9 H locs hwT hP hD hS => ?_)
  have ht9 : t9 = th' := (Option.some.inj (show some th' = some t9 from hwT)).symm
  rw [ht9]
  have hP : va_P D vwCl (((kv_kw ci ad kc kh ks fo kl kp dy mo n pa aE qp qm ql qv qc qe mt' mv' sw' hv' tk' tn sc) ++ [((aO, .inl (ci 4, 1, .inr (.inl g'))) : Nat × va_E)]) ++ (kv_mw ci md th' nw co ho ve la pr rg rp rm rc re ro rl mcn' mtn' mtk' msp' ba')) H := kv_commP hP
  have hD : va_D (fun q : Nat => s.heap.size ≤ q) (((kv_kw ci ad kc kh ks fo kl kp dy mo n pa aE qp qm ql qv qc qe mt' mv' sw' hv' tk' tn sc) ++ [((aO, .inl (ci 4, 1, .inr (.inl g'))) : Nat × va_E)]) ++ (kv_mw ci md th' nw co ho ve la pr rg rp rm rc re ro rl mcn' mtn' mtk' msp' ba')) := kv_commD hD
  refine lv_iload hx hb dL_law_1235 (lv_at hl 1 rfl) ?_
  rcases hw with ⟨v, hv1, hr0, hg⟩ | ⟨hv1, hr0, hs⟩
  · obtain ⟨y1, y2, y3⟩ := z3 v mt' mv' sw' hv' tk' b9 th' mcn' mtn' mtk' msp' ba' hv1 hwM
    refine lv_icmp_eq (tgt := 1242) hx hb dL_law_1237 (by decide) (fun _ => ?_) (fun c9 => absurd (y1.trans hr0.symm) c9)
    refine lv_iload hx hb dL_law_1242 (lv_at hl 1 rfl) ?_
    refine lv_if_ne (tgt := 1259) hx hb dL_law_1244 (by decide) (fun c9 => absurd hr0 c9) (fun _ => ?_)
    refine lv_aload_n hx hb dL_law_1247 rfl (lv_at hl 5 rfl) ?_
    refine lv_iconst (v := 0) hx hb dL_law_1248 (by decide) ?_
    refine va_lald hx hb hK (kv_Pl hP) (kv_kw ci ad kc kh ks fo kl kp dy mo n pa aE qp qm ql qv qc qe mt' mv' sw' hv' tk' tn sc).length 4 kv_last rfl (by unfold vp_in; decide) dL_law_1249 ?_
    refine lv_iload hx hb dL_law_1250 (lv_at hl 0 rfl) ?_
    refine lv_i2l (v := b9.toInt64) hx hb dL_law_1252 rfl ?_
    refine W.lcmp hx hb dL_law_1253 ?_
    rw [show g' (0 : Int32).toNatClampNeg = b9.toInt64 from by rw [← y2, show g' = vp_updL g 0 v.toInt64 from hg]; rfl, kv_cmp_eq]
    refine lv_if_eq (tgt := 1259) hx hb dL_law_1254 (by decide) (fun _ => ?_) (fun c9 => absurd rfl c9)
    refine lv_goto (tgt := 1454) hx hb dL_law_1259 (by decide) ?_
    exact hkk _ _ kc kh ks fo kl kp dy mo n pa aE qp qm ql qv qc qe mt' mv' sw' hv' tk' tn sc th' nw co ho ve la pr rg rp rm rc re ro rl mcn' mtn' mtk' msp' ba' g' H locs ls (by omega) (by omega) y3 hE hP hD hS (lv_sub hl [2, 3, 4, 5, 6] rfl)
  · obtain ⟨y1, y2⟩ := z4 b9 th' mcn' mtn' mtk' msp' ba' hv1 hwM
    obtain ⟨w0, w1, w2, w3, w4, w5⟩ := hs
    have hP : va_P D vwCl (((kv_kw ci ad kc kh ks fo kl kp dy mo n pa aE qp qm ql qv qc qe mt mv sw hv tk tn sc) ++ [((aO, .inl (ci 4, 1, .inr (.inl g'))) : Nat × va_E)]) ++ (kv_mw ci md th' nw co ho ve la pr rg rp rm rc re ro rl mcn' mtn' mtk' msp' ba')) H := by rw [← show mt' = mt from w0, ← show mv' = mv from w1, ← show sw' = sw from w2, ← show hv' = hv from w3, ← show tk' = tk from w4]; exact hP
    have hD : va_D (fun q : Nat => s.heap.size ≤ q) (((kv_kw ci ad kc kh ks fo kl kp dy mo n pa aE qp qm ql qv qc qe mt mv sw hv tk tn sc) ++ [((aO, .inl (ci 4, 1, .inr (.inl g'))) : Nat × va_E)]) ++ (kv_mw ci md th' nw co ho ve la pr rg rp rm rc re ro rl mcn' mtn' mtk' msp' ba')) := by rw [← show mt' = mt from w0, ← show mv' = mv from w1, ← show sw' = sw from w2, ← show hv' = hv from w3, ← show tk' = tk from w4]; exact hD
    refine lv_icmp_eq (tgt := 1242) hx hb dL_law_1237 (by decide) (fun _ => ?_) (fun c9 => absurd (y1.trans hr0.symm) c9)
    refine lv_iload hx hb dL_law_1242 (lv_at hl 1 rfl) ?_
    refine lv_if_ne (tgt := 1259) hx hb dL_law_1244 (by decide) (fun _ => ?_) (fun c9 => absurd c9 (by rw [hr0]; decide))
    refine lv_goto (tgt := 1454) hx hb dL_law_1259 (by decide) ?_
    exact hkk _ _ kc kh ks fo kl kp dy mo n pa aE qp qm ql qv qc qe mt mv sw hv tk tn sc th' nw co ho ve la pr rg rp rm rc re ro rl mcn' mtn' mtk' msp' ba' g' H locs ls (by omega) (by omega) y2 hE hP hD hS (lv_sub hl [2, 3, 4, 5, 6] rfl)

set_option maxHeartbeats 4000000 in
set_option maxRecDepth 100000 in
theorem law_c_gapByAll {p : Program} {l : Launch} {en : Env} {s : State} {m : MethodId} {below : List Frame} {meth : Method} {c : Code} {D : va_G} {ci ad md : Nat → Nat} {aS aO b L : Nat} {xs : Nat → Int32} (hL : L ≤ 2560) (hC : law_C p l s m meth c D ci aS b L xs) {a cl sl : Nat} (ha : a + 5 ≤ L) (hcl : cl ≤ 50000) (hsl : sl ≤ 500000) (kc : Nat → Int32) (kh : Nat → Int32) (ks : Nat → Int32) (fo : Nat → Nat → Int32) (kl : Nat → Int32) (kp : Nat → Int32) (dy : Int32) (mo : Int32) (n : Nat) (pa : Nat → Nat) (aE : Nat) (qp : Nat → Int32) (qm : Nat → Int32) (ql : Nat → Int32) (qv : Nat → Int32) (qc : Nat → Int32) (qe : Nat → Int32) (mt : Nat → Int32) (mv : Nat → Int32) (sw : Nat → Int32) (hv : Int32) (tk : Nat → Int32) (tn : Nat → Int32) (sc : Nat → Int32) (th : Int32) (nw : Int32) (co : Nat → Int32) (ho : Nat → Int32) (ve : Nat → Int32) (la : Nat → Int32) (pr : Nat → Int32) (rg : Int32) (rp : Nat → Int32) (rm : Nat → Int32) (rc : Nat → Int32) (re : Nat → Int32) (ro : Nat → Int32) (rl : Nat → Int32) (mcn : Nat → Int32) (mtn : Nat → Int32) (mtk : Nat → Int32) (msp : Nat → Int32) (ba : Int32) (g : Nat → Int64) (hI : kv_inv kc kh fo kl kp dy n qp qm ql qv qc qe sw nw co ho ve la pr rg rp rm rc re ro rl mtk msp) (hE : n = 0 → aE = aS) {H : Heap} {locs : List Loc} {ls : Array Slot} (hP : va_P D vwCl (((kv_kw ci ad kc kh ks fo kl kp dy mo n pa aE qp qm ql qv qc qe mt mv sw hv tk tn sc) ++ [((aO, .inl (ci 4, 1, .inr (.inl g))) : Nat × va_E)]) ++ (kv_mw ci md th nw co ho ve la pr rg rp rm rc re ro rl mcn mtn mtk msp ba)) H) (hD : va_D (fun q : Nat => s.heap.size ≤ q) (((kv_kw ci ad kc kh ks fo kl kp dy mo n pa aE qp qm ql qv qc qe mt mv sw hv tk tn sc) ++ [((aO, .inl (ci 4, 1, .inr (.inl g))) : Nat × va_E)]) ++ (kv_mw ci md th nw co ho ve la pr rg rp rm rc re ro rl mcn mtn mtk msp ba))) (hS : va_S (fun q : Nat => s.heap.size ≤ q) s.heap H locs) (hl : lv_has ls 7 [(0, .ref b), (1, .ref (ad 0)), (2, .ref (md 0)), (3, .ref aO), (4, .int (nI a))]) (hkk : law_K p l en s m below meth c D ci ad md aS aO b (nI a) 1454 (cl + 10) (sl + 60)) : W p l en room_1 s m #[Value.ref b] below meth c H locs cl sl (lw_Z below #[Value.ref b] s) (F0 m 1262 ls []) := by
  obtain ⟨⟨hx, hb, hr, hml, hown, hts0, hX, hbl, hlocks, hgv⟩, hl9, hT, hT2, hN, hK⟩ := id hC
  have hown : s.vm.findClass RL = some m.cls := hown
  have hts := fun w h => hts0 w (wsL_law_in w h)
  have hA : ∀ q : Nat, s.heap.size ≤ q → (fun q : Nat => s.heap.size ≤ q) q := fun _ h => h
  have hbA : ¬ (fun q : Nat => s.heap.size ≤ q) b := Nat.not_le.mpr hbl
  obtain ⟨z0, z1, z2, z3, z4, z5⟩ := ag_gapByAll kc kh fo kl kp dy n qp qm ql qv qc qe mt mv sw hv tk tn sc th nw co ho ve la pr rg rp rm rc re ro rl mcn mtn mtk msp ba (xs (nI a + 1).toNatClampNeg) hI
  refine lv_aload_n hx hb dL_law_1262 rfl (lv_at hl 1 rfl) ?_
  refine lv_aload_n hx hb dL_law_1263 rfl (lv_at hl 0 rfl) ?_
  refine lv_iload hx hb dL_law_1264 (lv_at hl 4 rfl) ?_
  refine lv_iconst (v := 1) hx hb dL_law_1266 (by decide) ?_
  refine lv_iadd hx hb dL_law_1267 ?_
  refine va_sld hx hb hX hbl hbA hS (kv_ix1 (by omega) hL) dL_law_1268 ?_
  refine lv_aload_n hx hb dL_law_1269 rfl (lv_at hl 3 rfl) ?_
  refine kv_calliF (vx_runSW (As := [.ref (ad 0), .int (xs (nI a + 1).toNatClampNeg), .ref aO]) (rest := []) ⟨hx, hb, hml, hown, hts⟩ (c_L_gapByAll l hl9 D ci ad aS kc kh ks fo kl kp dy mo n pa aE qp qm ql qv qc qe mt mv sw hv tk tn sc aO g (xs (nI a + 1).toNatClampNeg) z0 z1 H.size) (vx_cwSW 3 hts gL_law_L_gapByAll rfl rfl rfl (by decide +kernel) ⟨Nat.le_of_ble_eq_true rfl, Nat.le_of_ble_eq_true rfl⟩) (kv_preSW hK (kv_Pl hP) (kv_Dl hD) hT hT2 hN hS hA) rfl rfl hl.1 rfl (lv_room (Nat.le_of_ble_eq_true rfl)) dL_law_1270 ⟨kv_room1 (by omega), kv_room2 (by omega)⟩) hP hD hS hA (fun r u H locs hw hP hD hS => ?_)
  obtain ⟨mt', mv', sw', hv', tk', tn', sc', g'⟩ := u
  have hP : va_P D vwCl (((kv_kw ci ad kc kh ks fo kl kp dy mo n pa aE qp qm ql qv qc qe mt' mv' sw' hv' tk' tn' sc') ++ [((aO, .inl (ci 4, 1, .inr (.inl g'))) : Nat × va_E)]) ++ (kv_mw ci md th nw co ho ve la pr rg rp rm rc re ro rl mcn mtn mtk msp ba)) H := hP
  have hD : va_D (fun q : Nat => s.heap.size ≤ q) (((kv_kw ci ad kc kh ks fo kl kp dy mo n pa aE qp qm ql qv qc qe mt' mv' sw' hv' tk' tn' sc') ++ [((aO, .inl (ci 4, 1, .inr (.inl g'))) : Nat × va_E)]) ++ (kv_mw ci md th nw co ho ve la pr rg rp rm rc re ro rl mcn mtn mtk msp ba)) := hD
  refine lv_istore (lv' := [(5, .int r), (0, .ref b), (1, .ref (ad 0)), (2, .ref (md 0)), (3, .ref aO), (4, .int (nI a))]) hx hb dL_law_1273 hl (by decide) rfl (fun ls hl => ?_)
  refine lv_aload_n hx hb dL_law_1275 rfl (lv_at hl 3 rfl) ?_
  refine lv_aload_n hx hb dL_law_1276 rfl (lv_at hl 1 rfl) ?_
  refine lv_iload hx hb dL_law_1277 (lv_at hl 5 rfl) ?_
  refine lv_iconst (v := 1) hx hb dL_law_1279 (by decide) ?_
  refine lv_iadd hx hb dL_law_1280 ?_
  refine va_sld hx hb hX hbl hbA hS (kv_ix1 (by omega) hL) dL_law_1281 ?_
  have hP : va_P D vwCl ((kv_mw ci md th nw co ho ve la pr rg rp rm rc re ro rl mcn mtn mtk msp ba) ++ ((kv_kw ci ad kc kh ks fo kl kp dy mo n pa aE qp qm ql qv qc qe mt' mv' sw' hv' tk' tn' sc') ++ [((aO, .inl (ci 4, 1, .inr (.inl g'))) : Nat × va_E)])) H := kv_commP hP
  have hD : va_D (fun q : Nat => s.heap.size ≤ q) ((kv_mw ci md th nw co ho ve la pr rg rp rm rc re ro rl mcn mtn mtk msp ba) ++ ((kv_kw ci ad kc kh ks fo kl kp dy mo n pa aE qp qm ql qv qc qe mt' mv' sw' hv' tk' tn' sc') ++ [((aO, .inl (ci 4, 1, .inr (.inl g'))) : Nat × va_E)])) := kv_commD hD
  refine kv_calliF (va_runV (As := [.int (xs (nI a + 1).toNatClampNeg)]) (rest := []) ⟨hx, hb, hml, hown, hts⟩ (c_X3_gapByAll l D ci md th nw co ho ve la pr rg rp rm rc re ro rl mcn mtn mtk msp ba (xs (nI a + 1).toNatClampNeg) z2 H.size) (cwV 1 hts gL_law_X3_gapByAll rfl rfl rfl (by decide +kernel) ⟨Nat.le_of_ble_eq_true rfl, Nat.le_of_ble_eq_true rfl⟩) (kv_preV hK (kv_Pl hP) (kv_Dl hD) (r := (RX3, TX3, 19)) (q0 := 0) (k := 4) rfl rfl rfl) rfl rfl hl.1 rfl (lv_room (Nat.le_of_ble_eq_true rfl)) dL_law_1282 ⟨kv_room1 (by omega), kv_room2 (by omega)⟩) hP hD hS hA (fun b9 u H locs hwM hP hD hS => ?_)
  obtain ⟨th', mcn', mtn', mtk', msp', ba'⟩ := u
  have hP : va_P D vwCl ((kv_mw ci md th' nw co ho ve la pr rg rp rm rc re ro rl mcn' mtn' mtk' msp' ba') ++ ((kv_kw ci ad kc kh ks fo kl kp dy mo n pa aE qp qm ql qv qc qe mt' mv' sw' hv' tk' tn' sc') ++ [((aO, .inl (ci 4, 1, .inr (.inl g'))) : Nat × va_E)])) H := hP
  have hD : va_D (fun q : Nat => s.heap.size ≤ q) ((kv_mw ci md th' nw co ho ve la pr rg rp rm rc re ro rl mcn' mtn' mtk' msp' ba') ++ ((kv_kw ci ad kc kh ks fo kl kp dy mo n pa aE qp qm ql qv qc qe mt' mv' sw' hv' tk' tn' sc') ++ [((aO, .inl (ci 4, 1, .inr (.inl g'))) : Nat × va_E)])) := hD
  refine lv_istore (lv' := [(6, .int b9), (5, .int r), (0, .ref b), (1, .ref (ad 0)), (2, .ref (md 0)), (3, .ref aO), (4, .int (nI a))]) hx hb dL_law_1285 hl (by decide) rfl (fun ls hl => ?_)
  refine lv_aload_n hx hb dL_law_1287 rfl (lv_at hl 4 rfl) ?_
  refine kv_calliF (va_runV (As := []) (rest := []) ⟨hx, hb, hml, hown, hts⟩ (c_X3_thrown l D ci md th' nw co ho ve la pr rg rp rm rc re ro rl mcn' mtn' mtk' msp' ba' (by unfold pf_X3_thrown; exact fun h => nomatch h) H.size) (cwV 0 hts gL_law_X3_thrown rfl rfl rfl (by decide +kernel) ⟨Nat.le_of_ble_eq_true rfl, Nat.le_of_ble_eq_true rfl⟩) (kv_preV hK (kv_Pl hP) (kv_Dl hD) (r := (RX3, TX3, 19)) (q0 := 0) (k := 4) rfl rfl rfl) rfl rfl hl.1 rfl (lv_room (Nat.le_of_ble_eq_true rfl)) dL_law_1288 ⟨kv_room1 (by omega), kv_room2 (by omega)⟩) hP hD hS hA (fun t9 u9 H locs hwT hP hD hS => ?_)
  have ht9 : t9 = th' := (Option.some.inj (show some th' = some t9 from hwT)).symm
  rw [ht9]
  have hP : va_P D vwCl (((kv_kw ci ad kc kh ks fo kl kp dy mo n pa aE qp qm ql qv qc qe mt' mv' sw' hv' tk' tn' sc') ++ [((aO, .inl (ci 4, 1, .inr (.inl g'))) : Nat × va_E)]) ++ (kv_mw ci md th' nw co ho ve la pr rg rp rm rc re ro rl mcn' mtn' mtk' msp' ba')) H := kv_commP hP
  have hD : va_D (fun q : Nat => s.heap.size ≤ q) (((kv_kw ci ad kc kh ks fo kl kp dy mo n pa aE qp qm ql qv qc qe mt' mv' sw' hv' tk' tn' sc') ++ [((aO, .inl (ci 4, 1, .inr (.inl g'))) : Nat × va_E)]) ++ (kv_mw ci md th' nw co ho ve la pr rg rp rm rc re ro rl mcn' mtn' mtk' msp' ba')) := kv_commD hD
  refine lv_iload hx hb dL_law_1291 (lv_at hl 1 rfl) ?_
  rcases hw with ⟨v, hv1, hr0, hg⟩ | ⟨hv1, hr0, hs⟩ | ⟨hv1, hr0, hs⟩
  · obtain ⟨y1, y2, y3⟩ := z3 v mt' mv' sw' hv' tk' tn' sc' b9 th' mcn' mtn' mtk' msp' ba' hv1 hwM
    refine lv_icmp_eq (tgt := 1298) hx hb dL_law_1293 (by decide) (fun _ => ?_) (fun c9 => absurd (y1.trans hr0.symm) c9)
    refine lv_iload hx hb dL_law_1298 (lv_at hl 1 rfl) ?_
    refine lv_if_ne (tgt := 1315) hx hb dL_law_1300 (by decide) (fun c9 => absurd hr0 c9) (fun _ => ?_)
    refine lv_aload_n hx hb dL_law_1303 rfl (lv_at hl 5 rfl) ?_
    refine lv_iconst (v := 0) hx hb dL_law_1304 (by decide) ?_
    refine va_lald hx hb hK (kv_Pl hP) (kv_kw ci ad kc kh ks fo kl kp dy mo n pa aE qp qm ql qv qc qe mt' mv' sw' hv' tk' tn' sc').length 4 kv_last rfl (by unfold vp_in; decide) dL_law_1305 ?_
    refine lv_iload hx hb dL_law_1306 (lv_at hl 0 rfl) ?_
    refine lv_i2l (v := b9.toInt64) hx hb dL_law_1308 rfl ?_
    refine W.lcmp hx hb dL_law_1309 ?_
    rw [show g' (0 : Int32).toNatClampNeg = b9.toInt64 from by rw [← y2, show g' = vp_updL g 0 v.toInt64 from hg]; rfl, kv_cmp_eq]
    refine lv_if_eq (tgt := 1315) hx hb dL_law_1310 (by decide) (fun _ => ?_) (fun c9 => absurd rfl c9)
    refine lv_goto (tgt := 1454) hx hb dL_law_1315 (by decide) ?_
    exact hkk _ _ kc kh ks fo kl kp dy mo n pa aE qp qm ql qv qc qe mt' mv' sw' hv' tk' tn' sc' th' nw co ho ve la pr rg rp rm rc re ro rl mcn' mtn' mtk' msp' ba' g' H locs ls (by omega) (by omega) y3 hE hP hD hS (lv_sub hl [2, 3, 4, 5, 6] rfl)
  · obtain ⟨y1, y2⟩ := z4 b9 th' mcn' mtn' mtk' msp' ba' hv1 hwM
    obtain ⟨w0, w1, w2, w3, w4, w5, w6, w7⟩ := hs
    have hP : va_P D vwCl (((kv_kw ci ad kc kh ks fo kl kp dy mo n pa aE qp qm ql qv qc qe mt mv sw hv tk tn sc) ++ [((aO, .inl (ci 4, 1, .inr (.inl g'))) : Nat × va_E)]) ++ (kv_mw ci md th' nw co ho ve la pr rg rp rm rc re ro rl mcn' mtn' mtk' msp' ba')) H := by rw [← show mt' = mt from w0, ← show mv' = mv from w1, ← show sw' = sw from w2, ← show hv' = hv from w3, ← show tk' = tk from w4, ← show tn' = tn from w5, ← show sc' = sc from w6]; exact hP
    have hD : va_D (fun q : Nat => s.heap.size ≤ q) (((kv_kw ci ad kc kh ks fo kl kp dy mo n pa aE qp qm ql qv qc qe mt mv sw hv tk tn sc) ++ [((aO, .inl (ci 4, 1, .inr (.inl g'))) : Nat × va_E)]) ++ (kv_mw ci md th' nw co ho ve la pr rg rp rm rc re ro rl mcn' mtn' mtk' msp' ba')) := by rw [← show mt' = mt from w0, ← show mv' = mv from w1, ← show sw' = sw from w2, ← show hv' = hv from w3, ← show tk' = tk from w4, ← show tn' = tn from w5, ← show sc' = sc from w6]; exact hD
    refine lv_icmp_eq (tgt := 1298) hx hb dL_law_1293 (by decide) (fun _ => ?_) (fun c9 => absurd (y1.trans hr0.symm) c9)
    refine lv_iload hx hb dL_law_1298 (lv_at hl 1 rfl) ?_
    refine lv_if_ne (tgt := 1315) hx hb dL_law_1300 (by decide) (fun _ => ?_) (fun c9 => absurd c9 (by rw [hr0]; decide))
    refine lv_goto (tgt := 1454) hx hb dL_law_1315 (by decide) ?_
    exact hkk _ _ kc kh ks fo kl kp dy mo n pa aE qp qm ql qv qc qe mt mv sw hv tk tn sc th' nw co ho ve la pr rg rp rm rc re ro rl mcn' mtn' mtk' msp' ba' g' H locs ls (by omega) (by omega) y2 hE hP hD hS (lv_sub hl [2, 3, 4, 5, 6] rfl)
  · obtain ⟨y1, y2⟩ := z5 b9 th' mcn' mtn' mtk' msp' ba' hv1 hwM
    obtain ⟨w0, w1, w2, w3, w4, w5, w6, w7⟩ := hs
    have hP : va_P D vwCl (((kv_kw ci ad kc kh ks fo kl kp dy mo n pa aE qp qm ql qv qc qe mt mv sw hv tk tn sc) ++ [((aO, .inl (ci 4, 1, .inr (.inl g'))) : Nat × va_E)]) ++ (kv_mw ci md th' nw co ho ve la pr rg rp rm rc re ro rl mcn' mtn' mtk' msp' ba')) H := by rw [← show mt' = mt from w0, ← show mv' = mv from w1, ← show sw' = sw from w2, ← show hv' = hv from w3, ← show tk' = tk from w4, ← show tn' = tn from w5, ← show sc' = sc from w6]; exact hP
    have hD : va_D (fun q : Nat => s.heap.size ≤ q) (((kv_kw ci ad kc kh ks fo kl kp dy mo n pa aE qp qm ql qv qc qe mt mv sw hv tk tn sc) ++ [((aO, .inl (ci 4, 1, .inr (.inl g'))) : Nat × va_E)]) ++ (kv_mw ci md th' nw co ho ve la pr rg rp rm rc re ro rl mcn' mtn' mtk' msp' ba')) := by rw [← show mt' = mt from w0, ← show mv' = mv from w1, ← show sw' = sw from w2, ← show hv' = hv from w3, ← show tk' = tk from w4, ← show tn' = tn from w5, ← show sc' = sc from w6]; exact hD
    refine lv_icmp_eq (tgt := 1298) hx hb dL_law_1293 (by decide) (fun _ => ?_) (fun c9 => absurd (y1.trans hr0.symm) c9)
    refine lv_iload hx hb dL_law_1298 (lv_at hl 1 rfl) ?_
    refine lv_if_ne (tgt := 1315) hx hb dL_law_1300 (by decide) (fun _ => ?_) (fun c9 => absurd c9 (by rw [hr0]; decide))
    refine lv_goto (tgt := 1454) hx hb dL_law_1315 (by decide) ?_
    exact hkk _ _ kc kh ks fo kl kp dy mo n pa aE qp qm ql qv qc qe mt mv sw hv tk tn sc th' nw co ho ve la pr rg rp rm rc re ro rl mcn' mtn' mtk' msp' ba' g' H locs ls (by omega) (by omega) y2 hE hP hD hS (lv_sub hl [2, 3, 4, 5, 6] rfl)

set_option maxHeartbeats 4000000 in
set_option maxRecDepth 100000 in
theorem law_c_gapIf {p : Program} {l : Launch} {en : Env} {s : State} {m : MethodId} {below : List Frame} {meth : Method} {c : Code} {D : va_G} {ci ad md : Nat → Nat} {aS aO b L : Nat} {xs : Nat → Int32} (hL : L ≤ 2560) (hC : law_C p l s m meth c D ci aS b L xs) {a cl sl : Nat} (ha : a + 5 ≤ L) (hcl : cl ≤ 50000) (hsl : sl ≤ 500000) (kc : Nat → Int32) (kh : Nat → Int32) (ks : Nat → Int32) (fo : Nat → Nat → Int32) (kl : Nat → Int32) (kp : Nat → Int32) (dy : Int32) (mo : Int32) (n : Nat) (pa : Nat → Nat) (aE : Nat) (qp : Nat → Int32) (qm : Nat → Int32) (ql : Nat → Int32) (qv : Nat → Int32) (qc : Nat → Int32) (qe : Nat → Int32) (mt : Nat → Int32) (mv : Nat → Int32) (sw : Nat → Int32) (hv : Int32) (tk : Nat → Int32) (tn : Nat → Int32) (sc : Nat → Int32) (th : Int32) (nw : Int32) (co : Nat → Int32) (ho : Nat → Int32) (ve : Nat → Int32) (la : Nat → Int32) (pr : Nat → Int32) (rg : Int32) (rp : Nat → Int32) (rm : Nat → Int32) (rc : Nat → Int32) (re : Nat → Int32) (ro : Nat → Int32) (rl : Nat → Int32) (mcn : Nat → Int32) (mtn : Nat → Int32) (mtk : Nat → Int32) (msp : Nat → Int32) (ba : Int32) (g : Nat → Int64) (hI : kv_inv kc kh fo kl kp dy n qp qm ql qv qc qe sw nw co ho ve la pr rg rp rm rc re ro rl mtk msp) (hE : n = 0 → aE = aS) {H : Heap} {locs : List Loc} {ls : Array Slot} (hP : va_P D vwCl (((kv_kw ci ad kc kh ks fo kl kp dy mo n pa aE qp qm ql qv qc qe mt mv sw hv tk tn sc) ++ [((aO, .inl (ci 4, 1, .inr (.inl g))) : Nat × va_E)]) ++ (kv_mw ci md th nw co ho ve la pr rg rp rm rc re ro rl mcn mtn mtk msp ba)) H) (hD : va_D (fun q : Nat => s.heap.size ≤ q) (((kv_kw ci ad kc kh ks fo kl kp dy mo n pa aE qp qm ql qv qc qe mt mv sw hv tk tn sc) ++ [((aO, .inl (ci 4, 1, .inr (.inl g))) : Nat × va_E)]) ++ (kv_mw ci md th nw co ho ve la pr rg rp rm rc re ro rl mcn mtn mtk msp ba))) (hS : va_S (fun q : Nat => s.heap.size ≤ q) s.heap H locs) (hl : lv_has ls 7 [(0, .ref b), (1, .ref (ad 0)), (2, .ref (md 0)), (3, .ref aO), (4, .int (nI a))]) (hkk : law_K p l en s m below meth c D ci ad md aS aO b (nI a) 1454 (cl + 10) (sl + 60)) : W p l en room_1 s m #[Value.ref b] below meth c H locs cl sl (lw_Z below #[Value.ref b] s) (F0 m 1318 ls []) := by
  obtain ⟨⟨hx, hb, hr, hml, hown, hts0, hX, hbl, hlocks, hgv⟩, hl9, hT, hT2, hN, hK⟩ := id hC
  have hown : s.vm.findClass RL = some m.cls := hown
  have hts := fun w h => hts0 w (wsL_law_in w h)
  have hA : ∀ q : Nat, s.heap.size ≤ q → (fun q : Nat => s.heap.size ≤ q) q := fun _ h => h
  have hbA : ¬ (fun q : Nat => s.heap.size ≤ q) b := Nat.not_le.mpr hbl
  obtain ⟨z0, z1, z2, z3, z4, z5, z6⟩ := ag_gapIf kc kh ks fo kl kp dy n qp qm ql qv qc qe mt mv sw hv tk th nw co ho ve la pr rg rp rm rc re ro rl mcn mtn mtk msp ba (xs (nI a + 1).toNatClampNeg) (xs (nI a + 2).toNatClampNeg) (xs (nI a + 3).toNatClampNeg) hI
  refine lv_aload_n hx hb dL_law_1318 rfl (lv_at hl 1 rfl) ?_
  refine lv_aload_n hx hb dL_law_1319 rfl (lv_at hl 0 rfl) ?_
  refine lv_iload hx hb dL_law_1320 (lv_at hl 4 rfl) ?_
  refine lv_iconst (v := 1) hx hb dL_law_1322 (by decide) ?_
  refine lv_iadd hx hb dL_law_1323 ?_
  refine va_sld hx hb hX hbl hbA hS (kv_ix1 (by omega) hL) dL_law_1324 ?_
  refine lv_aload_n hx hb dL_law_1325 rfl (lv_at hl 0 rfl) ?_
  refine lv_iload hx hb dL_law_1326 (lv_at hl 4 rfl) ?_
  refine lv_iconst (v := 2) hx hb dL_law_1328 (by decide) ?_
  refine lv_iadd hx hb dL_law_1329 ?_
  refine va_sld hx hb hX hbl hbA hS (kv_ix2 (by omega) hL) dL_law_1330 ?_
  refine lv_aload_n hx hb dL_law_1331 rfl (lv_at hl 0 rfl) ?_
  refine lv_iload hx hb dL_law_1332 (lv_at hl 4 rfl) ?_
  refine lv_iconst (v := 3) hx hb dL_law_1334 (by decide) ?_
  refine lv_iadd hx hb dL_law_1335 ?_
  refine va_sld hx hb hX hbl hbA hS (kv_ix3 (by omega) hL) dL_law_1336 ?_
  refine lv_aload_n hx hb dL_law_1337 rfl (lv_at hl 3 rfl) ?_
  refine kv_calliF (vx_runSW (As := [.ref (ad 0), .int (xs (nI a + 1).toNatClampNeg), .int (xs (nI a + 2).toNatClampNeg), .int (xs (nI a + 3).toNatClampNeg), .ref aO]) (rest := []) ⟨hx, hb, hml, hown, hts⟩ (c_L_gapIf l hl9 D ci ad aS kc kh ks fo kl kp dy mo n pa aE qp qm ql qv qc qe mt mv sw hv tk tn sc aO g (xs (nI a + 1).toNatClampNeg) (xs (nI a + 2).toNatClampNeg) (xs (nI a + 3).toNatClampNeg) z0 z1 H.size) (vx_cwSW 5 hts gL_law_L_gapIf rfl rfl rfl (by decide +kernel) ⟨Nat.le_of_ble_eq_true rfl, Nat.le_of_ble_eq_true rfl⟩) (kv_preSW hK (kv_Pl hP) (kv_Dl hD) hT hT2 hN hS hA) rfl rfl hl.1 rfl (lv_room (Nat.le_of_ble_eq_true rfl)) dL_law_1338 ⟨kv_room1 (by omega), kv_room2 (by omega)⟩) hP hD hS hA (fun r u H locs hw hP hD hS => ?_)
  obtain ⟨ks', mt', mv', sw', hv', tk', g'⟩ := u
  have hP : va_P D vwCl (((kv_kw ci ad kc kh ks' fo kl kp dy mo n pa aE qp qm ql qv qc qe mt' mv' sw' hv' tk' tn sc) ++ [((aO, .inl (ci 4, 1, .inr (.inl g'))) : Nat × va_E)]) ++ (kv_mw ci md th nw co ho ve la pr rg rp rm rc re ro rl mcn mtn mtk msp ba)) H := hP
  have hD : va_D (fun q : Nat => s.heap.size ≤ q) (((kv_kw ci ad kc kh ks' fo kl kp dy mo n pa aE qp qm ql qv qc qe mt' mv' sw' hv' tk' tn sc) ++ [((aO, .inl (ci 4, 1, .inr (.inl g'))) : Nat × va_E)]) ++ (kv_mw ci md th nw co ho ve la pr rg rp rm rc re ro rl mcn mtn mtk msp ba)) := hD
  refine lv_istore (lv' := [(5, .int r), (0, .ref b), (1, .ref (ad 0)), (2, .ref (md 0)), (3, .ref aO), (4, .int (nI a))]) hx hb dL_law_1341 hl (by decide) rfl (fun ls hl => ?_)
  refine lv_aload_n hx hb dL_law_1343 rfl (lv_at hl 3 rfl) ?_
  refine lv_aload_n hx hb dL_law_1344 rfl (lv_at hl 1 rfl) ?_
  refine lv_iload hx hb dL_law_1345 (lv_at hl 5 rfl) ?_
  refine lv_iconst (v := 1) hx hb dL_law_1347 (by decide) ?_
  refine lv_iadd hx hb dL_law_1348 ?_
  refine va_sld hx hb hX hbl hbA hS (kv_ix1 (by omega) hL) dL_law_1349 ?_
  refine lv_aload_n hx hb dL_law_1350 rfl (lv_at hl 1 rfl) ?_
  refine lv_iload hx hb dL_law_1351 (lv_at hl 5 rfl) ?_
  refine lv_iconst (v := 2) hx hb dL_law_1353 (by decide) ?_
  refine lv_iadd hx hb dL_law_1354 ?_
  refine va_sld hx hb hX hbl hbA hS (kv_ix2 (by omega) hL) dL_law_1355 ?_
  refine lv_aload_n hx hb dL_law_1356 rfl (lv_at hl 1 rfl) ?_
  refine lv_iload hx hb dL_law_1357 (lv_at hl 5 rfl) ?_
  refine lv_iconst (v := 3) hx hb dL_law_1359 (by decide) ?_
  refine lv_iadd hx hb dL_law_1360 ?_
  refine va_sld hx hb hX hbl hbA hS (kv_ix3 (by omega) hL) dL_law_1361 ?_
  have hP : va_P D vwCl ((kv_mw ci md th nw co ho ve la pr rg rp rm rc re ro rl mcn mtn mtk msp ba) ++ ((kv_kw ci ad kc kh ks' fo kl kp dy mo n pa aE qp qm ql qv qc qe mt' mv' sw' hv' tk' tn sc) ++ [((aO, .inl (ci 4, 1, .inr (.inl g'))) : Nat × va_E)])) H := kv_commP hP
  have hD : va_D (fun q : Nat => s.heap.size ≤ q) ((kv_mw ci md th nw co ho ve la pr rg rp rm rc re ro rl mcn mtn mtk msp ba) ++ ((kv_kw ci ad kc kh ks' fo kl kp dy mo n pa aE qp qm ql qv qc qe mt' mv' sw' hv' tk' tn sc) ++ [((aO, .inl (ci 4, 1, .inr (.inl g'))) : Nat × va_E)])) := kv_commD hD
  refine kv_calliF (va_runV (As := [.int (xs (nI a + 1).toNatClampNeg), .int (xs (nI a + 2).toNatClampNeg), .int (xs (nI a + 3).toNatClampNeg)]) (rest := []) ⟨hx, hb, hml, hown, hts⟩ (c_X3_gapIf l D ci md th nw co ho ve la pr rg rp rm rc re ro rl mcn mtn mtk msp ba (xs (nI a + 1).toNatClampNeg) (xs (nI a + 2).toNatClampNeg) (xs (nI a + 3).toNatClampNeg) z2 H.size) (cwV 3 hts gL_law_X3_gapIf rfl rfl rfl (by decide +kernel) ⟨Nat.le_of_ble_eq_true rfl, Nat.le_of_ble_eq_true rfl⟩) (kv_preV hK (kv_Pl hP) (kv_Dl hD) (r := (RX3, TX3, 19)) (q0 := 0) (k := 4) rfl rfl rfl) rfl rfl hl.1 rfl (lv_room (Nat.le_of_ble_eq_true rfl)) dL_law_1362 ⟨kv_room1 (by omega), kv_room2 (by omega)⟩) hP hD hS hA (fun b9 u H locs hwM hP hD hS => ?_)
  obtain ⟨th', ho', mcn', mtn', mtk', msp', ba'⟩ := u
  have hP : va_P D vwCl ((kv_mw ci md th' nw co ho' ve la pr rg rp rm rc re ro rl mcn' mtn' mtk' msp' ba') ++ ((kv_kw ci ad kc kh ks' fo kl kp dy mo n pa aE qp qm ql qv qc qe mt' mv' sw' hv' tk' tn sc) ++ [((aO, .inl (ci 4, 1, .inr (.inl g'))) : Nat × va_E)])) H := hP
  have hD : va_D (fun q : Nat => s.heap.size ≤ q) ((kv_mw ci md th' nw co ho' ve la pr rg rp rm rc re ro rl mcn' mtn' mtk' msp' ba') ++ ((kv_kw ci ad kc kh ks' fo kl kp dy mo n pa aE qp qm ql qv qc qe mt' mv' sw' hv' tk' tn sc) ++ [((aO, .inl (ci 4, 1, .inr (.inl g'))) : Nat × va_E)])) := hD
  refine lv_istore (lv' := [(6, .int b9), (5, .int r), (0, .ref b), (1, .ref (ad 0)), (2, .ref (md 0)), (3, .ref aO), (4, .int (nI a))]) hx hb dL_law_1365 hl (by decide) rfl (fun ls hl => ?_)
  refine lv_aload_n hx hb dL_law_1367 rfl (lv_at hl 4 rfl) ?_
  refine kv_calliF (va_runV (As := []) (rest := []) ⟨hx, hb, hml, hown, hts⟩ (c_X3_thrown l D ci md th' nw co ho' ve la pr rg rp rm rc re ro rl mcn' mtn' mtk' msp' ba' (by unfold pf_X3_thrown; exact fun h => nomatch h) H.size) (cwV 0 hts gL_law_X3_thrown rfl rfl rfl (by decide +kernel) ⟨Nat.le_of_ble_eq_true rfl, Nat.le_of_ble_eq_true rfl⟩) (kv_preV hK (kv_Pl hP) (kv_Dl hD) (r := (RX3, TX3, 19)) (q0 := 0) (k := 4) rfl rfl rfl) rfl rfl hl.1 rfl (lv_room (Nat.le_of_ble_eq_true rfl)) dL_law_1368 ⟨kv_room1 (by omega), kv_room2 (by omega)⟩) hP hD hS hA (fun t9 u9 H locs hwT hP hD hS => ?_)
  have ht9 : t9 = th' := (Option.some.inj (show some th' = some t9 from hwT)).symm
  rw [ht9]
  have hP : va_P D vwCl (((kv_kw ci ad kc kh ks' fo kl kp dy mo n pa aE qp qm ql qv qc qe mt' mv' sw' hv' tk' tn sc) ++ [((aO, .inl (ci 4, 1, .inr (.inl g'))) : Nat × va_E)]) ++ (kv_mw ci md th' nw co ho' ve la pr rg rp rm rc re ro rl mcn' mtn' mtk' msp' ba')) H := kv_commP hP
  have hD : va_D (fun q : Nat => s.heap.size ≤ q) (((kv_kw ci ad kc kh ks' fo kl kp dy mo n pa aE qp qm ql qv qc qe mt' mv' sw' hv' tk' tn sc) ++ [((aO, .inl (ci 4, 1, .inr (.inl g'))) : Nat × va_E)]) ++ (kv_mw ci md th' nw co ho' ve la pr rg rp rm rc re ro rl mcn' mtn' mtk' msp' ba')) := kv_commD hD
  refine lv_iload hx hb dL_law_1371 (lv_at hl 1 rfl) ?_
  rcases hw with ⟨v, hv1, hr0, hg⟩ | ⟨hv1, hr0, hs⟩ | ⟨hv1, hr0, hs⟩ | ⟨hv1, hr0, hs⟩
  · obtain ⟨y1, y2, y3⟩ := z3 v ks' mt' mv' sw' hv' tk' b9 th' ho' mcn' mtn' mtk' msp' ba' hv1 hwM
    refine lv_icmp_eq (tgt := 1378) hx hb dL_law_1373 (by decide) (fun _ => ?_) (fun c9 => absurd (y1.trans hr0.symm) c9)
    refine lv_iload hx hb dL_law_1378 (lv_at hl 1 rfl) ?_
    refine lv_if_ne (tgt := 1395) hx hb dL_law_1380 (by decide) (fun c9 => absurd hr0 c9) (fun _ => ?_)
    refine lv_aload_n hx hb dL_law_1383 rfl (lv_at hl 5 rfl) ?_
    refine lv_iconst (v := 0) hx hb dL_law_1384 (by decide) ?_
    refine va_lald hx hb hK (kv_Pl hP) (kv_kw ci ad kc kh ks' fo kl kp dy mo n pa aE qp qm ql qv qc qe mt' mv' sw' hv' tk' tn sc).length 4 kv_last rfl (by unfold vp_in; decide) dL_law_1385 ?_
    refine lv_iload hx hb dL_law_1386 (lv_at hl 0 rfl) ?_
    refine lv_i2l (v := b9.toInt64) hx hb dL_law_1388 rfl ?_
    refine W.lcmp hx hb dL_law_1389 ?_
    rw [show g' (0 : Int32).toNatClampNeg = b9.toInt64 from by rw [← y2, show g' = vp_updL g 0 v.toInt64 from hg]; rfl, kv_cmp_eq]
    refine lv_if_eq (tgt := 1395) hx hb dL_law_1390 (by decide) (fun _ => ?_) (fun c9 => absurd rfl c9)
    refine lv_goto (tgt := 1454) hx hb dL_law_1395 (by decide) ?_
    exact hkk _ _ kc kh ks' fo kl kp dy mo n pa aE qp qm ql qv qc qe mt' mv' sw' hv' tk' tn sc th' nw co ho' ve la pr rg rp rm rc re ro rl mcn' mtn' mtk' msp' ba' g' H locs ls (by omega) (by omega) y3 hE hP hD hS (lv_sub hl [2, 3, 4, 5, 6] rfl)
  · obtain ⟨y1, y2⟩ := z4 b9 th' ho' mcn' mtn' mtk' msp' ba' hv1 hwM
    obtain ⟨w0, w1, w2, w3, w4, w5, w6⟩ := hs
    have hP : va_P D vwCl (((kv_kw ci ad kc kh ks fo kl kp dy mo n pa aE qp qm ql qv qc qe mt mv sw hv tk tn sc) ++ [((aO, .inl (ci 4, 1, .inr (.inl g'))) : Nat × va_E)]) ++ (kv_mw ci md th' nw co ho' ve la pr rg rp rm rc re ro rl mcn' mtn' mtk' msp' ba')) H := by rw [← show ks' = ks from w0, ← show mt' = mt from w1, ← show mv' = mv from w2, ← show sw' = sw from w3, ← show hv' = hv from w4, ← show tk' = tk from w5]; exact hP
    have hD : va_D (fun q : Nat => s.heap.size ≤ q) (((kv_kw ci ad kc kh ks fo kl kp dy mo n pa aE qp qm ql qv qc qe mt mv sw hv tk tn sc) ++ [((aO, .inl (ci 4, 1, .inr (.inl g'))) : Nat × va_E)]) ++ (kv_mw ci md th' nw co ho' ve la pr rg rp rm rc re ro rl mcn' mtn' mtk' msp' ba')) := by rw [← show ks' = ks from w0, ← show mt' = mt from w1, ← show mv' = mv from w2, ← show sw' = sw from w3, ← show hv' = hv from w4, ← show tk' = tk from w5]; exact hD
    refine lv_icmp_eq (tgt := 1378) hx hb dL_law_1373 (by decide) (fun _ => ?_) (fun c9 => absurd (y1.trans hr0.symm) c9)
    refine lv_iload hx hb dL_law_1378 (lv_at hl 1 rfl) ?_
    refine lv_if_ne (tgt := 1395) hx hb dL_law_1380 (by decide) (fun _ => ?_) (fun c9 => absurd c9 (by rw [hr0]; decide))
    refine lv_goto (tgt := 1454) hx hb dL_law_1395 (by decide) ?_
    exact hkk _ _ kc kh ks fo kl kp dy mo n pa aE qp qm ql qv qc qe mt mv sw hv tk tn sc th' nw co ho' ve la pr rg rp rm rc re ro rl mcn' mtn' mtk' msp' ba' g' H locs ls (by omega) (by omega) y2 hE hP hD hS (lv_sub hl [2, 3, 4, 5, 6] rfl)
  · obtain ⟨y1, y2⟩ := z5 b9 th' ho' mcn' mtn' mtk' msp' ba' hv1 hwM
    obtain ⟨w0, w1, w2, w3, w4, w5, w6⟩ := hs
    have hP : va_P D vwCl (((kv_kw ci ad kc kh ks fo kl kp dy mo n pa aE qp qm ql qv qc qe mt mv sw hv tk tn sc) ++ [((aO, .inl (ci 4, 1, .inr (.inl g'))) : Nat × va_E)]) ++ (kv_mw ci md th' nw co ho' ve la pr rg rp rm rc re ro rl mcn' mtn' mtk' msp' ba')) H := by rw [← show ks' = ks from w0, ← show mt' = mt from w1, ← show mv' = mv from w2, ← show sw' = sw from w3, ← show hv' = hv from w4, ← show tk' = tk from w5]; exact hP
    have hD : va_D (fun q : Nat => s.heap.size ≤ q) (((kv_kw ci ad kc kh ks fo kl kp dy mo n pa aE qp qm ql qv qc qe mt mv sw hv tk tn sc) ++ [((aO, .inl (ci 4, 1, .inr (.inl g'))) : Nat × va_E)]) ++ (kv_mw ci md th' nw co ho' ve la pr rg rp rm rc re ro rl mcn' mtn' mtk' msp' ba')) := by rw [← show ks' = ks from w0, ← show mt' = mt from w1, ← show mv' = mv from w2, ← show sw' = sw from w3, ← show hv' = hv from w4, ← show tk' = tk from w5]; exact hD
    refine lv_icmp_eq (tgt := 1378) hx hb dL_law_1373 (by decide) (fun _ => ?_) (fun c9 => absurd (y1.trans hr0.symm) c9)
    refine lv_iload hx hb dL_law_1378 (lv_at hl 1 rfl) ?_
    refine lv_if_ne (tgt := 1395) hx hb dL_law_1380 (by decide) (fun _ => ?_) (fun c9 => absurd c9 (by rw [hr0]; decide))
    refine lv_goto (tgt := 1454) hx hb dL_law_1395 (by decide) ?_
    exact hkk _ _ kc kh ks fo kl kp dy mo n pa aE qp qm ql qv qc qe mt mv sw hv tk tn sc th' nw co ho' ve la pr rg rp rm rc re ro rl mcn' mtn' mtk' msp' ba' g' H locs ls (by omega) (by omega) y2 hE hP hD hS (lv_sub hl [2, 3, 4, 5, 6] rfl)
  · obtain ⟨y1, y2⟩ := z6 b9 th' ho' mcn' mtn' mtk' msp' ba' hv1 hwM
    obtain ⟨w0, w1, w2, w3, w4, w5, w6⟩ := hs
    have hP : va_P D vwCl (((kv_kw ci ad kc kh ks fo kl kp dy mo n pa aE qp qm ql qv qc qe mt mv sw hv tk tn sc) ++ [((aO, .inl (ci 4, 1, .inr (.inl g'))) : Nat × va_E)]) ++ (kv_mw ci md th' nw co ho' ve la pr rg rp rm rc re ro rl mcn' mtn' mtk' msp' ba')) H := by rw [← show ks' = ks from w0, ← show mt' = mt from w1, ← show mv' = mv from w2, ← show sw' = sw from w3, ← show hv' = hv from w4, ← show tk' = tk from w5]; exact hP
    have hD : va_D (fun q : Nat => s.heap.size ≤ q) (((kv_kw ci ad kc kh ks fo kl kp dy mo n pa aE qp qm ql qv qc qe mt mv sw hv tk tn sc) ++ [((aO, .inl (ci 4, 1, .inr (.inl g'))) : Nat × va_E)]) ++ (kv_mw ci md th' nw co ho' ve la pr rg rp rm rc re ro rl mcn' mtn' mtk' msp' ba')) := by rw [← show ks' = ks from w0, ← show mt' = mt from w1, ← show mv' = mv from w2, ← show sw' = sw from w3, ← show hv' = hv from w4, ← show tk' = tk from w5]; exact hD
    refine lv_icmp_eq (tgt := 1378) hx hb dL_law_1373 (by decide) (fun _ => ?_) (fun c9 => absurd (y1.trans hr0.symm) c9)
    refine lv_iload hx hb dL_law_1378 (lv_at hl 1 rfl) ?_
    refine lv_if_ne (tgt := 1395) hx hb dL_law_1380 (by decide) (fun _ => ?_) (fun c9 => absurd c9 (by rw [hr0]; decide))
    refine lv_goto (tgt := 1454) hx hb dL_law_1395 (by decide) ?_
    exact hkk _ _ kc kh ks fo kl kp dy mo n pa aE qp qm ql qv qc qe mt mv sw hv tk tn sc th' nw co ho' ve la pr rg rp rm rc re ro rl mcn' mtn' mtk' msp' ba' g' H locs ls (by omega) (by omega) y2 hE hP hD hS (lv_sub hl [2, 3, 4, 5, 6] rfl)

set_option maxHeartbeats 4000000 in
set_option maxRecDepth 100000 in
theorem law_c_spare {p : Program} {l : Launch} {en : Env} {s : State} {m : MethodId} {below : List Frame} {meth : Method} {c : Code} {D : va_G} {ci ad md : Nat → Nat} {aS aO b L : Nat} {xs : Nat → Int32} (hL : L ≤ 2560) (hC : law_C p l s m meth c D ci aS b L xs) {a cl sl : Nat} (ha : a + 5 ≤ L) (hcl : cl ≤ 50000) (hsl : sl ≤ 500000) (kc : Nat → Int32) (kh : Nat → Int32) (ks : Nat → Int32) (fo : Nat → Nat → Int32) (kl : Nat → Int32) (kp : Nat → Int32) (dy : Int32) (mo : Int32) (n : Nat) (pa : Nat → Nat) (aE : Nat) (qp : Nat → Int32) (qm : Nat → Int32) (ql : Nat → Int32) (qv : Nat → Int32) (qc : Nat → Int32) (qe : Nat → Int32) (mt : Nat → Int32) (mv : Nat → Int32) (sw : Nat → Int32) (hv : Int32) (tk : Nat → Int32) (tn : Nat → Int32) (sc : Nat → Int32) (th : Int32) (nw : Int32) (co : Nat → Int32) (ho : Nat → Int32) (ve : Nat → Int32) (la : Nat → Int32) (pr : Nat → Int32) (rg : Int32) (rp : Nat → Int32) (rm : Nat → Int32) (rc : Nat → Int32) (re : Nat → Int32) (ro : Nat → Int32) (rl : Nat → Int32) (mcn : Nat → Int32) (mtn : Nat → Int32) (mtk : Nat → Int32) (msp : Nat → Int32) (ba : Int32) (g : Nat → Int64) (hI : kv_inv kc kh fo kl kp dy n qp qm ql qv qc qe sw nw co ho ve la pr rg rp rm rc re ro rl mtk msp) (hE : n = 0 → aE = aS) {H : Heap} {locs : List Loc} {ls : Array Slot} (hP : va_P D vwCl (((kv_kw ci ad kc kh ks fo kl kp dy mo n pa aE qp qm ql qv qc qe mt mv sw hv tk tn sc) ++ [((aO, .inl (ci 4, 1, .inr (.inl g))) : Nat × va_E)]) ++ (kv_mw ci md th nw co ho ve la pr rg rp rm rc re ro rl mcn mtn mtk msp ba)) H) (hD : va_D (fun q : Nat => s.heap.size ≤ q) (((kv_kw ci ad kc kh ks fo kl kp dy mo n pa aE qp qm ql qv qc qe mt mv sw hv tk tn sc) ++ [((aO, .inl (ci 4, 1, .inr (.inl g))) : Nat × va_E)]) ++ (kv_mw ci md th nw co ho ve la pr rg rp rm rc re ro rl mcn mtn mtk msp ba))) (hS : va_S (fun q : Nat => s.heap.size ≤ q) s.heap H locs) (hl : lv_has ls 7 [(0, .ref b), (1, .ref (ad 0)), (2, .ref (md 0)), (3, .ref aO), (4, .int (nI a))]) (hkk : law_K p l en s m below meth c D ci ad md aS aO b (nI a) 1454 (cl + 10) (sl + 60)) : W p l en room_1 s m #[Value.ref b] below meth c H locs cl sl (lw_Z below #[Value.ref b] s) (F0 m 1398 ls []) := by
  obtain ⟨⟨hx, hb, hr, hml, hown, hts0, hX, hbl, hlocks, hgv⟩, hl9, hT, hT2, hN, hK⟩ := id hC
  have hown : s.vm.findClass RL = some m.cls := hown
  have hts := fun w h => hts0 w (wsL_law_in w h)
  have hA : ∀ q : Nat, s.heap.size ≤ q → (fun q : Nat => s.heap.size ≤ q) q := fun _ h => h
  have hbA : ¬ (fun q : Nat => s.heap.size ≤ q) b := Nat.not_le.mpr hbl
  obtain ⟨z0, z1, z2, z3, z4⟩ := ag_spare kc kh fo kl kp dy n qp qm ql qv qc qe mt mv sw hv tk th nw co ho ve la pr rg rp rm rc re ro rl mcn mtn mtk msp ba (xs (nI a + 1).toNatClampNeg) hI
  refine lv_aload_n hx hb dL_law_1398 rfl (lv_at hl 1 rfl) ?_
  refine lv_aload_n hx hb dL_law_1399 rfl (lv_at hl 0 rfl) ?_
  refine lv_iload hx hb dL_law_1400 (lv_at hl 4 rfl) ?_
  refine lv_iconst (v := 1) hx hb dL_law_1402 (by decide) ?_
  refine lv_iadd hx hb dL_law_1403 ?_
  refine va_sld hx hb hX hbl hbA hS (kv_ix1 (by omega) hL) dL_law_1404 ?_
  refine lv_aload_n hx hb dL_law_1405 rfl (lv_at hl 3 rfl) ?_
  refine kv_calliF (vx_runSW (As := [.ref (ad 0), .int (xs (nI a + 1).toNatClampNeg), .ref aO]) (rest := []) ⟨hx, hb, hml, hown, hts⟩ (c_L_spare l hl9 D ci ad aS kc kh ks fo kl kp dy mo n pa aE qp qm ql qv qc qe mt mv sw hv tk tn sc aO g (xs (nI a + 1).toNatClampNeg) z0 z1 H.size) (vx_cwSW 3 hts gL_law_L_spare rfl rfl rfl (by decide +kernel) ⟨Nat.le_of_ble_eq_true rfl, Nat.le_of_ble_eq_true rfl⟩) (kv_preSW hK (kv_Pl hP) (kv_Dl hD) hT hT2 hN hS hA) rfl rfl hl.1 rfl (lv_room (Nat.le_of_ble_eq_true rfl)) dL_law_1406 ⟨kv_room1 (by omega), kv_room2 (by omega)⟩) hP hD hS hA (fun r u H locs hw hP hD hS => ?_)
  obtain ⟨mt', mv', sw', hv', tk', g'⟩ := u
  have hP : va_P D vwCl (((kv_kw ci ad kc kh ks fo kl kp dy mo n pa aE qp qm ql qv qc qe mt' mv' sw' hv' tk' tn sc) ++ [((aO, .inl (ci 4, 1, .inr (.inl g'))) : Nat × va_E)]) ++ (kv_mw ci md th nw co ho ve la pr rg rp rm rc re ro rl mcn mtn mtk msp ba)) H := hP
  have hD : va_D (fun q : Nat => s.heap.size ≤ q) (((kv_kw ci ad kc kh ks fo kl kp dy mo n pa aE qp qm ql qv qc qe mt' mv' sw' hv' tk' tn sc) ++ [((aO, .inl (ci 4, 1, .inr (.inl g'))) : Nat × va_E)]) ++ (kv_mw ci md th nw co ho ve la pr rg rp rm rc re ro rl mcn mtn mtk msp ba)) := hD
  refine lv_istore (lv' := [(5, .int r), (0, .ref b), (1, .ref (ad 0)), (2, .ref (md 0)), (3, .ref aO), (4, .int (nI a))]) hx hb dL_law_1409 hl (by decide) rfl (fun ls hl => ?_)
  refine lv_aload_n hx hb dL_law_1411 rfl (lv_at hl 3 rfl) ?_
  refine lv_aload_n hx hb dL_law_1412 rfl (lv_at hl 1 rfl) ?_
  refine lv_iload hx hb dL_law_1413 (lv_at hl 5 rfl) ?_
  refine lv_iconst (v := 1) hx hb dL_law_1415 (by decide) ?_
  refine lv_iadd hx hb dL_law_1416 ?_
  refine va_sld hx hb hX hbl hbA hS (kv_ix1 (by omega) hL) dL_law_1417 ?_
  have hP : va_P D vwCl ((kv_mw ci md th nw co ho ve la pr rg rp rm rc re ro rl mcn mtn mtk msp ba) ++ ((kv_kw ci ad kc kh ks fo kl kp dy mo n pa aE qp qm ql qv qc qe mt' mv' sw' hv' tk' tn sc) ++ [((aO, .inl (ci 4, 1, .inr (.inl g'))) : Nat × va_E)])) H := kv_commP hP
  have hD : va_D (fun q : Nat => s.heap.size ≤ q) ((kv_mw ci md th nw co ho ve la pr rg rp rm rc re ro rl mcn mtn mtk msp ba) ++ ((kv_kw ci ad kc kh ks fo kl kp dy mo n pa aE qp qm ql qv qc qe mt' mv' sw' hv' tk' tn sc) ++ [((aO, .inl (ci 4, 1, .inr (.inl g'))) : Nat × va_E)])) := kv_commD hD
  refine kv_calliF (va_runV (As := [.int (xs (nI a + 1).toNatClampNeg)]) (rest := []) ⟨hx, hb, hml, hown, hts⟩ (c_X3_spare l D ci md th nw co ho ve la pr rg rp rm rc re ro rl mcn mtn mtk msp ba (xs (nI a + 1).toNatClampNeg) z2 H.size) (cwV 1 hts gL_law_X3_spare rfl rfl rfl (by decide +kernel) ⟨Nat.le_of_ble_eq_true rfl, Nat.le_of_ble_eq_true rfl⟩) (kv_preV hK (kv_Pl hP) (kv_Dl hD) (r := (RX3, TX3, 19)) (q0 := 0) (k := 4) rfl rfl rfl) rfl rfl hl.1 rfl (lv_room (Nat.le_of_ble_eq_true rfl)) dL_law_1418 ⟨kv_room1 (by omega), kv_room2 (by omega)⟩) hP hD hS hA (fun b9 u H locs hwM hP hD hS => ?_)
  obtain ⟨th', rc', mcn', mtn', mtk', msp', ba'⟩ := u
  have hP : va_P D vwCl ((kv_mw ci md th' nw co ho ve la pr rg rp rm rc' re ro rl mcn' mtn' mtk' msp' ba') ++ ((kv_kw ci ad kc kh ks fo kl kp dy mo n pa aE qp qm ql qv qc qe mt' mv' sw' hv' tk' tn sc) ++ [((aO, .inl (ci 4, 1, .inr (.inl g'))) : Nat × va_E)])) H := hP
  have hD : va_D (fun q : Nat => s.heap.size ≤ q) ((kv_mw ci md th' nw co ho ve la pr rg rp rm rc' re ro rl mcn' mtn' mtk' msp' ba') ++ ((kv_kw ci ad kc kh ks fo kl kp dy mo n pa aE qp qm ql qv qc qe mt' mv' sw' hv' tk' tn sc) ++ [((aO, .inl (ci 4, 1, .inr (.inl g'))) : Nat × va_E)])) := hD
  refine lv_istore (lv' := [(6, .int b9), (5, .int r), (0, .ref b), (1, .ref (ad 0)), (2, .ref (md 0)), (3, .ref aO), (4, .int (nI a))]) hx hb dL_law_1421 hl (by decide) rfl (fun ls hl => ?_)
  refine lv_aload_n hx hb dL_law_1423 rfl (lv_at hl 4 rfl) ?_
  refine kv_calliF (va_runV (As := []) (rest := []) ⟨hx, hb, hml, hown, hts⟩ (c_X3_thrown l D ci md th' nw co ho ve la pr rg rp rm rc' re ro rl mcn' mtn' mtk' msp' ba' (by unfold pf_X3_thrown; exact fun h => nomatch h) H.size) (cwV 0 hts gL_law_X3_thrown rfl rfl rfl (by decide +kernel) ⟨Nat.le_of_ble_eq_true rfl, Nat.le_of_ble_eq_true rfl⟩) (kv_preV hK (kv_Pl hP) (kv_Dl hD) (r := (RX3, TX3, 19)) (q0 := 0) (k := 4) rfl rfl rfl) rfl rfl hl.1 rfl (lv_room (Nat.le_of_ble_eq_true rfl)) dL_law_1424 ⟨kv_room1 (by omega), kv_room2 (by omega)⟩) hP hD hS hA (fun t9 u9 H locs hwT hP hD hS => ?_)
  have ht9 : t9 = th' := (Option.some.inj (show some th' = some t9 from hwT)).symm
  rw [ht9]
  have hP : va_P D vwCl (((kv_kw ci ad kc kh ks fo kl kp dy mo n pa aE qp qm ql qv qc qe mt' mv' sw' hv' tk' tn sc) ++ [((aO, .inl (ci 4, 1, .inr (.inl g'))) : Nat × va_E)]) ++ (kv_mw ci md th' nw co ho ve la pr rg rp rm rc' re ro rl mcn' mtn' mtk' msp' ba')) H := kv_commP hP
  have hD : va_D (fun q : Nat => s.heap.size ≤ q) (((kv_kw ci ad kc kh ks fo kl kp dy mo n pa aE qp qm ql qv qc qe mt' mv' sw' hv' tk' tn sc) ++ [((aO, .inl (ci 4, 1, .inr (.inl g'))) : Nat × va_E)]) ++ (kv_mw ci md th' nw co ho ve la pr rg rp rm rc' re ro rl mcn' mtn' mtk' msp' ba')) := kv_commD hD
  refine lv_iload hx hb dL_law_1427 (lv_at hl 1 rfl) ?_
  rcases hw with ⟨v, hv1, hr0, hg⟩ | ⟨hv1, hr0, hs⟩
  · obtain ⟨y1, y2, y3⟩ := z3 v mt' mv' sw' hv' tk' b9 th' rc' mcn' mtn' mtk' msp' ba' hv1 hwM
    refine lv_icmp_eq (tgt := 1434) hx hb dL_law_1429 (by decide) (fun _ => ?_) (fun c9 => absurd (y1.trans hr0.symm) c9)
    refine lv_iload hx hb dL_law_1434 (lv_at hl 1 rfl) ?_
    refine lv_if_ne (tgt := 1451) hx hb dL_law_1436 (by decide) (fun c9 => absurd hr0 c9) (fun _ => ?_)
    refine lv_aload_n hx hb dL_law_1439 rfl (lv_at hl 5 rfl) ?_
    refine lv_iconst (v := 0) hx hb dL_law_1440 (by decide) ?_
    refine va_lald hx hb hK (kv_Pl hP) (kv_kw ci ad kc kh ks fo kl kp dy mo n pa aE qp qm ql qv qc qe mt' mv' sw' hv' tk' tn sc).length 4 kv_last rfl (by unfold vp_in; decide) dL_law_1441 ?_
    refine lv_iload hx hb dL_law_1442 (lv_at hl 0 rfl) ?_
    refine lv_i2l (v := b9.toInt64) hx hb dL_law_1444 rfl ?_
    refine W.lcmp hx hb dL_law_1445 ?_
    rw [show g' (0 : Int32).toNatClampNeg = b9.toInt64 from by rw [← y2, show g' = vp_updL g 0 v.toInt64 from hg]; rfl, kv_cmp_eq]
    refine lv_if_eq (tgt := 1451) hx hb dL_law_1446 (by decide) (fun _ => ?_) (fun c9 => absurd rfl c9)
    refine lv_goto (tgt := 1454) hx hb dL_law_1451 (by decide) ?_
    exact hkk _ _ kc kh ks fo kl kp dy mo n pa aE qp qm ql qv qc qe mt' mv' sw' hv' tk' tn sc th' nw co ho ve la pr rg rp rm rc' re ro rl mcn' mtn' mtk' msp' ba' g' H locs ls (by omega) (by omega) y3 hE hP hD hS (lv_sub hl [2, 3, 4, 5, 6] rfl)
  · obtain ⟨y1, y2⟩ := z4 b9 th' rc' mcn' mtn' mtk' msp' ba' hv1 hwM
    obtain ⟨w0, w1, w2, w3, w4, w5⟩ := hs
    have hP : va_P D vwCl (((kv_kw ci ad kc kh ks fo kl kp dy mo n pa aE qp qm ql qv qc qe mt mv sw hv tk tn sc) ++ [((aO, .inl (ci 4, 1, .inr (.inl g'))) : Nat × va_E)]) ++ (kv_mw ci md th' nw co ho ve la pr rg rp rm rc' re ro rl mcn' mtn' mtk' msp' ba')) H := by rw [← show mt' = mt from w0, ← show mv' = mv from w1, ← show sw' = sw from w2, ← show hv' = hv from w3, ← show tk' = tk from w4]; exact hP
    have hD : va_D (fun q : Nat => s.heap.size ≤ q) (((kv_kw ci ad kc kh ks fo kl kp dy mo n pa aE qp qm ql qv qc qe mt mv sw hv tk tn sc) ++ [((aO, .inl (ci 4, 1, .inr (.inl g'))) : Nat × va_E)]) ++ (kv_mw ci md th' nw co ho ve la pr rg rp rm rc' re ro rl mcn' mtn' mtk' msp' ba')) := by rw [← show mt' = mt from w0, ← show mv' = mv from w1, ← show sw' = sw from w2, ← show hv' = hv from w3, ← show tk' = tk from w4]; exact hD
    refine lv_icmp_eq (tgt := 1434) hx hb dL_law_1429 (by decide) (fun _ => ?_) (fun c9 => absurd (y1.trans hr0.symm) c9)
    refine lv_iload hx hb dL_law_1434 (lv_at hl 1 rfl) ?_
    refine lv_if_ne (tgt := 1451) hx hb dL_law_1436 (by decide) (fun _ => ?_) (fun c9 => absurd c9 (by rw [hr0]; decide))
    refine lv_goto (tgt := 1454) hx hb dL_law_1451 (by decide) ?_
    exact hkk _ _ kc kh ks fo kl kp dy mo n pa aE qp qm ql qv qc qe mt mv sw hv tk tn sc th' nw co ho ve la pr rg rp rm rc' re ro rl mcn' mtn' mtk' msp' ba' g' H locs ls (by omega) (by omega) y2 hE hP hD hS (lv_sub hl [2, 3, 4, 5, 6] rfl)
