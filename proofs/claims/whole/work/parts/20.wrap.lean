section KVW
theorem kv_frame {A : Nat → Prop} {D : va_G} {cl : List vw_C} {w0 w1 Y : va_W} {H H1 : Heap} (hP : va_P D cl (w0 ++ Y) H) (hD : va_D A (w0 ++ Y)) (hk : ∀ q : Nat, q < H.size → ¬ va_A w0 H.size q → H1[q]? = H[q]?) (hF : ∀ q, va_A w0 H.size q → A q) (hP1 : va_P D cl w1 H1) (hD1 : va_D (va_A w0 H.size) w1) : va_P D cl (w1 ++ Y) H1 ∧ va_D A (w1 ++ Y) := by
  rw [kv_D_iff, List.map_append] at hD
  rw [kv_D_iff] at hD1
  obtain ⟨hN, hAll⟩ := hD
  obtain ⟨n1, n2, n3⟩ := List.pairwise_append.mp hN
  have hout : ∀ y ∈ Y, y.1 < H.size ∧ ¬ va_A w0 H.size y.1 := by
    intro y hy
    obtain ⟨i, hi⟩ := List.getElem?_of_mem (List.mem_append_right w0 hy)
    have hlt := (hP i y hi).lt
    refine ⟨hlt, fun h => ?_⟩
    rcases h with ⟨k, x, hx⟩ | h
    · exact n3 _ (List.mem_map.mpr ⟨_, List.mem_of_getElem? hx, rfl⟩) _ (List.mem_map.mpr ⟨y, hy, rfl⟩) rfl
    · omega
  refine ⟨hP1.app fun k y hk2 => ?_, ?_⟩
  · have hy := List.mem_of_getElem? hk2
    obtain ⟨i, hi⟩ := List.getElem?_of_mem (List.mem_append_right w0 hy)
    exact (hP i y hi).kept (hk _ (hout y hy).1 (hout y hy).2)
  · rw [kv_D_iff, List.map_append]
    refine ⟨List.pairwise_append.mpr ⟨hD1.1, n2, fun a ha b hb hab => ?_⟩, fun x hx => ?_⟩
    · obtain ⟨x, hx, rfl⟩ := List.mem_map.mp ha
      obtain ⟨y, hy, rfl⟩ := List.mem_map.mp hb
      exact (hout y hy).2 (hab ▸ hD1.2 x hx)
    · rcases List.mem_append.mp hx with h | h
      · exact hF _ (hD1.2 x h)
      · exact hAll x (List.mem_append_right _ h)
def kv_nc (U : State) : Prop := ∀ a b : Nat, 1 ≤ a → a ≤ 3 → 1 ≤ b → b ≤ 3 → a ≠ b → va_Nc (kv_ex a) (kv_ex b) U
def kv_preW (D : va_G) (ci : Nat → Nat) (aS : Nat) (w0 : va_W) (sz : Nat) (U : State) : Prop := kv_preY D ci aS w0 sz U ∧ kv_nc U
theorem kv_preW_blind {D : va_G} {ci : Nat → Nat} {aS : Nat} {w0 : va_W} {sz : Nat} {av : List Value} : FrameBlind (va_Pc av (kv_preW D ci aS w0 sz)) := fun a U g mk q => ⟨q.1, (kv_preY_blind a U g mk ⟨q.1, q.2.1⟩).2, fun x y h1 h2 h3 h4 h5 => va_Nc.moved (u := U) (U := U.calling g mk a) (Vm.Alike.refl U.vm) (q.2.2 x y h1 h2 h3 h4 h5)⟩
variable {p : Program} {l : Launch} {e : Env} {R : Room} {s : State} {m : MethodId} {args : Array Value} {below : List Frame} {meth : Method} {c : Code} {H : Heap} {locs : List Loc} {cells slots : Nat} {Q : State → Prop}
variable {pc : Nat} {ls : Array Slot} {rest st0 : List Value} {a : Array Value} {A : Nat → Prop} {H0 : Heap} {mc ms : Nat} {D : va_G} {ci : Nat → Nat} {w0 Y : va_W}
theorem kv_Dl (hD : va_D A (w0 ++ Y)) : va_D A w0 := kv_D_sub hD (List.Perm.refl _) (List.sublist_append_left _ _)
theorem kv_Pl {cl : List vw_C} (hP : va_P D cl (w0 ++ Y) H) : va_P D cl w0 H := kv_P_mem hP fun _ h => List.mem_append_left _ h
theorem kv_preSW {aS : Nat} {As : List Value} (hK : va_K D vwCl (kv_tys ci) s) (hP : va_P D vwCl w0 H) (hD : va_D A w0) (hT : kv_thr A s) (hT2 : kv_lst aS A s) (hN : kv_nc s) (hS : va_S A s.heap H locs) (hA : ∀ q, s.heap.size ≤ q → A q) : PreS s H (va_Pc As (kv_preW D ci aS w0 H.size)) As :=
  ⟨kv_preW_blind, fun U hU hW => ⟨rfl, ⟨⟨⟨by rw [hU], by rw [hU]; exact hP, va_K.moved hW.alike hK, hD.weaken (fun _ _ _ _ => trivial)⟩, kv_thr_at hT hS (kv_free hD hS hA) hU hW⟩, kv_lst_at hT2 hS (kv_free hD hS hA) hU hW⟩, fun x y h1 h2 h3 h4 h5 => va_Nc.moved hW.alike (hN x y h1 h2 h3 h4 h5)⟩⟩
theorem kv_xcalliF {S : Type} {post : Int32 → S → Prop} {px : Nat → Prop} {wf : S → va_W} (hr : vx_Run p l e R s m args below meth c H locs cells slots mc ms (F0 m pc ls st0) rest (va_Qi post (fun u t => kv_post D w0 H.size (wf u) t) (va_A w0 H.size) a) (vx_X px (fun E u t => E = kv_ex u ∧ kv_post D w0 H.size w0 t) (va_A w0 H.size)) (va_A w0 H.size)) (hP : va_P D vwCl (w0 ++ Y) H) (hD : va_D A (w0 ++ Y)) (hS : va_S A H0 H locs) (hA : ∀ q, H0.size ≤ q → A q)
    (kx : ∀ (ce : Cell) (q9 : Addr) (u : Nat) (H1 : Heap) (locs1 : List Loc), px u → va_P D vwCl (w0 ++ Y) H1 → va_D A (w0 ++ Y) → va_S A H0 H1 locs1 → H1[q9]? = some ce → ce.vm = .none → s.vm.findClass (kv_ex u) = some ce.cls → vx_W p l e R s m args below meth c H1 locs1 (cells + mc) (slots + ms) Q (F0 m pc ls rest) q9)
    (kk : ∀ (r : Int32) (u : S) (H1 : Heap) (locs1 : List Loc), post r u → va_P D vwCl (wf u ++ Y) H1 → va_D A (wf u ++ Y) → va_S A H0 H1 locs1 → W p l e R s m args below meth c H1 locs1 (cells + mc) (slots + ms) Q (F0 m (pc + 3) ls (.int r :: rest))) : W p l e R s m args below meth c H locs cells slots Q (F0 m pc ls st0) := by
  have hF := kv_free (kv_Dl hD) hS hA
  refine vx_calli hr hS (fun q _ h => hF q h) hF (fun q _ h => hF q h) (fun E ce q9 u t H1 locs1 ht hvm hw hB hz1 hk1 hS1 h1 h2 h3 => ?_) (fun r u t H1 locs1 ht hvm hw hB hz1 hk1 hS1 => ?_)
  · obtain ⟨rfl, hP1, hD1⟩ := hB
    rw [ht] at hP1
    obtain ⟨z1, z2⟩ := kv_frame hP hD hk1 hF hP1 hD1
    exact kx ce q9 u H1 locs1 hw z1 z2 hS1 h1 h2 h3
  · obtain ⟨hP1, hD1⟩ := hB
    rw [ht] at hP1
    obtain ⟨z1, z2⟩ := kv_frame hP hD hk1 hF hP1 hD1
    exact kk r u H1 locs1 hw z1 z2 hS1
theorem kv_calliF {S : Type} {post : Int32 → S → Prop} {wf : S → va_W} (hr : va_Run p l e R s m args below meth c H locs cells slots mc ms (F0 m pc ls st0) rest (va_Qi post (fun u t => kv_post D w0 H.size (wf u) t) (va_A w0 H.size) a) (va_A w0 H.size)) (hP : va_P D vwCl (w0 ++ Y) H) (hD : va_D A (w0 ++ Y)) (hS : va_S A H0 H locs) (hA : ∀ q, H0.size ≤ q → A q)
    (kk : ∀ (r : Int32) (u : S) (H1 : Heap) (locs1 : List Loc), post r u → va_P D vwCl (wf u ++ Y) H1 → va_D A (wf u ++ Y) → va_S A H0 H1 locs1 → W p l e R s m args below meth c H1 locs1 (cells + mc) (slots + ms) Q (F0 m (pc + 3) ls (.int r :: rest))) : W p l e R s m args below meth c H locs cells slots Q (F0 m pc ls st0) := by
  have hF := kv_free (kv_Dl hD) hS hA
  refine va_calli hr hS (fun q _ h => hF q h) hF (fun r u t H1 locs1 ht hvm hw hB hz1 hk1 hS1 => ?_)
  obtain ⟨hP1, hD1⟩ := hB
  rw [ht] at hP1
  obtain ⟨z1, z2⟩ := kv_frame hP hD hk1 hF hP1 hD1
  exact kk r u H1 locs1 hw z1 z2 hS1
theorem kv_callvF {S : Type} {post : S → Prop} {wf : S → va_W} (hr : va_Run p l e R s m args below meth c H locs cells slots mc ms (F0 m pc ls st0) rest (va_Qv post (fun u t => kv_post D w0 H.size (wf u) t) (va_A w0 H.size) a) (va_A w0 H.size)) (hP : va_P D vwCl (w0 ++ Y) H) (hD : va_D A (w0 ++ Y)) (hS : va_S A H0 H locs) (hA : ∀ q, H0.size ≤ q → A q)
    (kk : ∀ (u : S) (H1 : Heap) (locs1 : List Loc), post u → va_P D vwCl (wf u ++ Y) H1 → va_D A (wf u ++ Y) → va_S A H0 H1 locs1 → W p l e R s m args below meth c H1 locs1 (cells + mc) (slots + ms) Q (F0 m (pc + 3) ls rest)) : W p l e R s m args below meth c H locs cells slots Q (F0 m pc ls st0) := by
  have hF := kv_free (kv_Dl hD) hS hA
  refine va_callv hr hS (fun q _ h => hF q h) hF (fun u t H1 locs1 ht hvm hw hB hz1 hk1 hS1 => ?_)
  obtain ⟨hP1, hD1⟩ := hB
  rw [ht] at hP1
  obtain ⟨z1, z2⟩ := kv_frame hP hD hk1 hF hP1 hD1
  exact kk u H1 locs1 hw z1 z2 hS1
end KVW

set_option maxHeartbeats 4000000 in
set_option maxRecDepth 100000 in
theorem c_L_setCores (l : Launch) (hl9 : l.stackTraces = false) (D : va_G) (ci ad : Nat → Nat) (aS : Nat) (kc : Nat → Int32) (kh : Nat → Int32) (ks : Nat → Int32) (fo : Nat → Nat → Int32) (kl : Nat → Int32) (kp : Nat → Int32) (dy : Int32) (mo : Int32) (n : Nat) (pa : Nat → Nat) (aE : Nat) (qp : Nat → Int32) (qm : Nat → Int32) (ql : Nat → Int32) (qv : Nat → Int32) (qc : Nat → Int32) (qe : Nat → Int32) (mt : Nat → Int32) (mv : Nat → Int32) (sw : Nat → Int32) (hv : Int32) (tk : Nat → Int32) (tn : Nat → Int32) (sc : Nat → Int32) (aO : Nat) (g : Nat → Int64) (p0 : Int32) (p1 : Int32) (hRn : pf_X2_setCores p0 p1 kc ≠ none) (hEx : ∀ c9, pf_X2_setCores p0 p1 kc = some (.inr c9) → c9 = 1 ∨ c9 = 2) (sz : Nat) : Met l yL_setCores wsL_setCores ({ frames := 8, cells := 2, slots := 12, locals := 127 } : Room) (va_Pc [.ref (ad 0), .int p0, .int p1, .ref aO] (kv_preW D ci aS ((kv_kw ci ad kc kh ks fo kl kp dy mo n pa aE qp qm ql qv qc qe mt mv sw hv tk tn sc) ++ [((aO, .inl (ci 4, 1, .inr (.inl g))) : Nat × va_E)]) sz)) (va_Qi (fun (r : Int32) (u : (Nat → Int32) × (Nat → Int64)) => (∃ v : Int32, pf_X2_setCores p0 p1 kc = some (.inl (v, u.1)) ∧ r = 0 ∧ u.2 = vp_updL g 0 v.toInt64) ∨ (pf_X2_setCores p0 p1 kc = some (.inr 1) ∧ r = 1 ∧ u.1 = kc ∧ u.2 = g) ∨ (pf_X2_setCores p0 p1 kc = some (.inr 2) ∧ r = 2 ∧ u.1 = kc ∧ u.2 = g)) (fun u t => kv_post D ((kv_kw ci ad kc kh ks fo kl kp dy mo n pa aE qp qm ql qv qc qe mt mv sw hv tk tn sc) ++ [((aO, .inl (ci 4, 1, .inr (.inl g))) : Nat × va_E)]) sz (kv_kw ci ad u.1 kh ks fo kl kp dy mo n pa aE qp qm ql qv qc qe mt mv sw hv tk tn sc ++ [((aO, .inl (ci 4, 1, .inr (.inl u.2))) : Nat × va_E)]) t) (va_A ((kv_kw ci ad kc kh ks fo kl kp dy mo n pa aE qp qm ql qv qc qe mt mv sw hv tk tn sc) ++ [((aO, .inl (ci 4, 1, .inr (.inl g))) : Nat × va_E)]) sz)) 2 12 (va_A ((kv_kw ci ad kc kh ks fo kl kp dy mo n pa aE qp qm ql qv qc qe mt mv sw hv tk tn sc) ++ [((aO, .inl (ci 4, 1, .inr (.inl g))) : Nat × va_E)]) sz) := by
  refine va_MetW (cc := cL_setCores) (maxL := 5) (ret := (some .int)) (by decide) rfl ?_
  intro p en s m args below meth c s₁ B hml hv
  obtain ⟨hv0, ⟨⟨⟨hsz, hP, hK, hD0⟩, hT⟩, hT2⟩, hN⟩ := hv
  have hx := B.exec
  have hb := B.bytes
  have hr := B.returns
  have hts := atoms_spec (ws := wsL_setCores) B.pre
  have hown : s.vm.findClass RL = some m.cls := findClass_of_methodNamed B.named
  have hlocks := B.notSynchronized
  subst hsz
  have hD := hD0.self (sz := s.heap.size)
  generalize hAe : va_A ((kv_kw ci ad kc kh ks fo kl kp dy mo n pa aE qp qm ql qv qc qe mt mv sw hv tk tn sc) ++ [((aO, .inl (ci 4, 1, .inr (.inl g))) : Nat × va_E)]) s.heap.size = A at hD hT hT2 ⊢
  have hA : ∀ q : Nat, s.heap.size ≤ q → A q := fun q h => by rw [← hAe]; exact Or.inr h
  have hS : va_S A s.heap s.heap [] := va_S.rf
  have htb : c.exceptionTable.toList = tableOf [(0, 10, 13, 13), (0, 10, 17, 15)] := vx_table (x := yL_setCores) B (hts (.codeWith yL_setCores cL_setCores 5 (some .int) [(0, 10, 13, 13), (0, 10, 17, 15)]) (by decide +kernel))
  refine W.eq (show entryFrame m args 5 = _ from by rw [hv0, lg_entry_eq]) ?_
  have hl := lv_entry ([.ref (ad 0), .int p0, .int p1, .ref aO]) (n := 5) (Nat.le_of_ble_eq_true rfl)
  generalize (lg_sl ([.ref (ad 0), .int p0, .int p1, .ref aO]) ++ List.replicate (5 - (lg_sl ([.ref (ad 0), .int p0, .int p1, .ref aO])).length) Slot.unset).toArray = ls at hl ⊢
  have hl : lv_has ls 5 [(0, .ref (ad 0)), (1, .int p0), (2, .int p1), (3, .ref aO)] := hl
  generalize hRd : pf_X2_setCores p0 p1 kc = Rz at hRn hEx ⊢
  refine lv_aload_n hx hb dL_setCores_0 rfl (lv_at hl 3 rfl) ?_
  refine lv_iconst (v := 0) hx hb dL_setCores_1 (by decide) ?_
  refine lv_aload_n hx hb dL_setCores_2 rfl (lv_at hl 0 rfl) ?_
  refine lv_iload_n hx hb dL_setCores_3 rfl (lv_at hl 1 rfl) ?_
  refine lv_iload_n hx hb dL_setCores_4 rfl (lv_at hl 2 rfl) ?_
  refine kv_xcalliF (vx_runV (As := [.int p0, .int p1]) (rest := [.int 0, .ref aO]) ⟨hx, hb, hml, hown, hts⟩ (c_X2_setCores l hl9 D ci ad kc kh ks fo kl kp dy mo n pa aE qp qm ql qv qc qe mt mv sw hv tk tn sc p0 p1 (by rw [hRd]; exact hRn) s.heap.size) (cwV 2 hts gL_setCores_X2_setCores rfl rfl rfl (by decide +kernel) ⟨Nat.le_of_ble_eq_true rfl, Nat.le_of_ble_eq_true rfl⟩) (kv_preVX hK (kv_Pl hP) (kv_Dl hD) hT hS hA (r := (RX2, TX2, 9)) (q0 := 0) (k := 3) rfl rfl rfl) rfl rfl hl.1 rfl (lv_room (Nat.le_of_ble_eq_true rfl)) dL_setCores_5 ⟨Nat.le_of_ble_eq_true rfl, Nat.le_of_ble_eq_true rfl⟩) hP hD hS hA (fun ce q9 u9 H locs hw hP hD hS h1 h2 h3 => ?_) (fun r u H locs hw hP hD hS => ?_)
  · rw [hRd] at hw
    rcases hEx _ hw with rfl | rfl
    · refine vx_catch (name := "java/lang/IndexOutOfBoundsException") hown ((tableOf [(0, 10, 13, 13), (0, 10, 17, 15)]).take 0) ((tableOf [(0, 10, 13, 13), (0, 10, 17, 15)]).getD 0 default) ((tableOf [(0, 10, 13, 13), (0, 10, 17, 15)]).drop 1) (by rw [htb]; rfl) (fun z hz => ?_) (by decide) (by decide) (hts (.classLink RL 13 "java/lang/IndexOutOfBoundsException") (by decide +kernel)) (va_Nw.use rfl (hT.2.2.2.1 1)) h1 h2 h3 ?_
      · exact absurd hz List.not_mem_nil
      · refine lv_astore (lv' := [(4, .ref q9), (0, .ref (ad 0)), (1, .int p0), (2, .int p1), (3, .ref aO)]) hx hb dL_setCores_13 hl (by decide) rfl (fun ls hl => ?_)
        refine lv_iconst (v := 1) hx hb dL_setCores_15 (by decide) ?_
        exact W.iret (v := 1) hx hb hr (fun t ht hW => ⟨⟨1, (kc, g), rfl, Or.inr (Or.inl ⟨hw, rfl, rfl, rfl⟩), ⟨by rw [ht]; exact hP, by rw [hAe]; exact hD⟩⟩, hS.F ht⟩) hS.2.2 dL_setCores_16
    · refine vx_catch (name := "java/lang/IllegalArgumentException") hown ((tableOf [(0, 10, 13, 13), (0, 10, 17, 15)]).take 1) ((tableOf [(0, 10, 13, 13), (0, 10, 17, 15)]).getD 1 default) ((tableOf [(0, 10, 13, 13), (0, 10, 17, 15)]).drop 2) (by rw [htb]; rfl) (fun z hz => ?_) (by decide) (by decide) (hts (.classLink RL 15 "java/lang/IllegalArgumentException") (by decide +kernel)) (va_Nw.use rfl (hT.2.2.2.1 2)) h1 h2 h3 ?_
      · obtain rfl : z = (tableOf [(0, 10, 13, 13), (0, 10, 17, 15)]).getD 0 default := List.mem_singleton.mp hz
        exact Or.inr ⟨by decide, "java/lang/IndexOutOfBoundsException", hts (.classLink RL 13 "java/lang/IndexOutOfBoundsException") (by decide +kernel), hN 2 1 (by decide) (by decide) (by decide) (by decide) (by decide)⟩
      · refine lv_astore (lv' := [(4, .ref q9), (0, .ref (ad 0)), (1, .int p0), (2, .int p1), (3, .ref aO)]) hx hb dL_setCores_17 hl (by decide) rfl (fun ls hl => ?_)
        refine lv_iconst (v := 2) hx hb dL_setCores_19 (by decide) ?_
        exact W.iret (v := 2) hx hb hr (fun t ht hW => ⟨⟨2, (kc, g), rfl, Or.inr (Or.inr (⟨hw, rfl, rfl, rfl⟩)), ⟨by rw [ht]; exact hP, by rw [hAe]; exact hD⟩⟩, hS.F ht⟩) hS.2.2 dL_setCores_20
  · rw [hRd] at hw
    have hP : va_P D vwCl ((kv_kw ci ad u kh ks fo kl kp dy mo n pa aE qp qm ql qv qc qe mt mv sw hv tk tn sc) ++ [((aO, .inl (ci 4, 1, .inr (.inl g))) : Nat × va_E)]) H := hP
    have hD : va_D A ((kv_kw ci ad u kh ks fo kl kp dy mo n pa aE qp qm ql qv qc qe mt mv sw hv tk tn sc) ++ [((aO, .inl (ci 4, 1, .inr (.inl g))) : Nat × va_E)]) := hD
    refine lv_i2l (v := r.toInt64) hx hb dL_setCores_8 rfl ?_
    refine va_last hx hb hK hP hD hS (kv_kw ci ad u kh ks fo kl kp dy mo n pa aE qp qm ql qv qc qe mt mv sw hv tk tn sc).length 4 kv_last rfl (by unfold vp_in; decide) dL_setCores_9 (fun H locs hP hD hS => ?_)
    rw [kv_last_set] at hP hD
    refine lv_goto (tgt := 21) hx hb dL_setCores_10 (by decide) ?_
    refine lv_iconst (v := 0) hx hb dL_setCores_21 (by decide) ?_
    exact W.iret (v := 0) hx hb hr (fun t ht hW => ⟨⟨0, (u, (vp_updL g 0 r.toInt64)), rfl, Or.inl ⟨r, hw, rfl, rfl⟩, ⟨by rw [ht]; exact hP, by rw [hAe]; exact hD⟩⟩, hS.F ht⟩) hS.2.2 dL_setCores_22

set_option maxHeartbeats 4000000 in
set_option maxRecDepth 100000 in
theorem c_L_move (l : Launch) (hl9 : l.stackTraces = false) (D : va_G) (ci ad : Nat → Nat) (aS : Nat) (kc : Nat → Int32) (kh : Nat → Int32) (ks : Nat → Int32) (fo : Nat → Nat → Int32) (kl : Nat → Int32) (kp : Nat → Int32) (dy : Int32) (mo : Int32) (n : Nat) (pa : Nat → Nat) (aE : Nat) (qp : Nat → Int32) (qm : Nat → Int32) (ql : Nat → Int32) (qv : Nat → Int32) (qc : Nat → Int32) (qe : Nat → Int32) (mt : Nat → Int32) (mv : Nat → Int32) (sw : Nat → Int32) (hv : Int32) (tk : Nat → Int32) (tn : Nat → Int32) (sc : Nat → Int32) (aO : Nat) (g : Nat → Int64) (p0 : Int32) (p1 : Int32) (hRn : pf_X2_move p0 p1 kh ≠ none) (hEx : ∀ c9, pf_X2_move p0 p1 kh = some (.inr c9) → c9 = 1 ∨ c9 = 2 ∨ c9 = 3) (sz : Nat) : Met l yL_move wsL_move ({ frames := 9, cells := 3, slots := 18, locals := 147 } : Room) (va_Pc [.ref (ad 0), .int p0, .int p1, .ref aO] (kv_preW D ci aS ((kv_kw ci ad kc kh ks fo kl kp dy mo n pa aE qp qm ql qv qc qe mt mv sw hv tk tn sc) ++ [((aO, .inl (ci 4, 1, .inr (.inl g))) : Nat × va_E)]) sz)) (va_Qi (fun (r : Int32) (u : (Nat → Int32) × (Nat → Int64)) => (∃ v : Int32, pf_X2_move p0 p1 kh = some (.inl (v, u.1)) ∧ r = 0 ∧ u.2 = vp_updL g 0 v.toInt64) ∨ (pf_X2_move p0 p1 kh = some (.inr 1) ∧ r = 1 ∧ u.1 = kh ∧ u.2 = g) ∨ (pf_X2_move p0 p1 kh = some (.inr 2) ∧ r = 2 ∧ u.1 = kh ∧ u.2 = g) ∨ (pf_X2_move p0 p1 kh = some (.inr 3) ∧ r = 3 ∧ u.1 = kh ∧ u.2 = g)) (fun u t => kv_post D ((kv_kw ci ad kc kh ks fo kl kp dy mo n pa aE qp qm ql qv qc qe mt mv sw hv tk tn sc) ++ [((aO, .inl (ci 4, 1, .inr (.inl g))) : Nat × va_E)]) sz (kv_kw ci ad kc u.1 ks fo kl kp dy mo n pa aE qp qm ql qv qc qe mt mv sw hv tk tn sc ++ [((aO, .inl (ci 4, 1, .inr (.inl u.2))) : Nat × va_E)]) t) (va_A ((kv_kw ci ad kc kh ks fo kl kp dy mo n pa aE qp qm ql qv qc qe mt mv sw hv tk tn sc) ++ [((aO, .inl (ci 4, 1, .inr (.inl g))) : Nat × va_E)]) sz)) 3 18 (va_A ((kv_kw ci ad kc kh ks fo kl kp dy mo n pa aE qp qm ql qv qc qe mt mv sw hv tk tn sc) ++ [((aO, .inl (ci 4, 1, .inr (.inl g))) : Nat × va_E)]) sz) := by
  refine va_MetW (cc := cL_move) (maxL := 5) (ret := (some .int)) (by decide) rfl ?_
  intro p en s m args below meth c s₁ B hml hv
  obtain ⟨hv0, ⟨⟨⟨hsz, hP, hK, hD0⟩, hT⟩, hT2⟩, hN⟩ := hv
  have hx := B.exec
  have hb := B.bytes
  have hr := B.returns
  have hts := atoms_spec (ws := wsL_move) B.pre
  have hown : s.vm.findClass RL = some m.cls := findClass_of_methodNamed B.named
  have hlocks := B.notSynchronized
  subst hsz
  have hD := hD0.self (sz := s.heap.size)
  generalize hAe : va_A ((kv_kw ci ad kc kh ks fo kl kp dy mo n pa aE qp qm ql qv qc qe mt mv sw hv tk tn sc) ++ [((aO, .inl (ci 4, 1, .inr (.inl g))) : Nat × va_E)]) s.heap.size = A at hD hT hT2 ⊢
  have hA : ∀ q : Nat, s.heap.size ≤ q → A q := fun q h => by rw [← hAe]; exact Or.inr h
  have hS : va_S A s.heap s.heap [] := va_S.rf
  have htb : c.exceptionTable.toList = tableOf [(0, 10, 13, 13), (0, 10, 17, 15), (0, 10, 21, 20)] := vx_table (x := yL_move) B (hts (.codeWith yL_move cL_move 5 (some .int) [(0, 10, 13, 13), (0, 10, 17, 15), (0, 10, 21, 20)]) (by decide +kernel))
  refine W.eq (show entryFrame m args 5 = _ from by rw [hv0, lg_entry_eq]) ?_
  have hl := lv_entry ([.ref (ad 0), .int p0, .int p1, .ref aO]) (n := 5) (Nat.le_of_ble_eq_true rfl)
  generalize (lg_sl ([.ref (ad 0), .int p0, .int p1, .ref aO]) ++ List.replicate (5 - (lg_sl ([.ref (ad 0), .int p0, .int p1, .ref aO])).length) Slot.unset).toArray = ls at hl ⊢
  have hl : lv_has ls 5 [(0, .ref (ad 0)), (1, .int p0), (2, .int p1), (3, .ref aO)] := hl
  generalize hRd : pf_X2_move p0 p1 kh = Rz at hRn hEx ⊢
  refine lv_aload_n hx hb dL_move_0 rfl (lv_at hl 3 rfl) ?_
  refine lv_iconst (v := 0) hx hb dL_move_1 (by decide) ?_
  refine lv_aload_n hx hb dL_move_2 rfl (lv_at hl 0 rfl) ?_
  refine lv_iload_n hx hb dL_move_3 rfl (lv_at hl 1 rfl) ?_
  refine lv_iload_n hx hb dL_move_4 rfl (lv_at hl 2 rfl) ?_
  refine kv_xcalliF (vx_runV (As := [.int p0, .int p1]) (rest := [.int 0, .ref aO]) ⟨hx, hb, hml, hown, hts⟩ (c_X2_move l hl9 D ci ad kc kh ks fo kl kp dy mo n pa aE qp qm ql qv qc qe mt mv sw hv tk tn sc p0 p1 (by rw [hRd]; exact hRn) s.heap.size) (cwV 2 hts gL_move_X2_move rfl rfl rfl (by decide +kernel) ⟨Nat.le_of_ble_eq_true rfl, Nat.le_of_ble_eq_true rfl⟩) (kv_preVX hK (kv_Pl hP) (kv_Dl hD) hT hS hA (r := (RX2, TX2, 9)) (q0 := 0) (k := 3) rfl rfl rfl) rfl rfl hl.1 rfl (lv_room (Nat.le_of_ble_eq_true rfl)) dL_move_5 ⟨Nat.le_of_ble_eq_true rfl, Nat.le_of_ble_eq_true rfl⟩) hP hD hS hA (fun ce q9 u9 H locs hw hP hD hS h1 h2 h3 => ?_) (fun r u H locs hw hP hD hS => ?_)
  · rw [hRd] at hw
    rcases hEx _ hw with rfl | rfl | rfl
    · refine vx_catch (name := "java/lang/IndexOutOfBoundsException") hown ((tableOf [(0, 10, 13, 13), (0, 10, 17, 15), (0, 10, 21, 20)]).take 0) ((tableOf [(0, 10, 13, 13), (0, 10, 17, 15), (0, 10, 21, 20)]).getD 0 default) ((tableOf [(0, 10, 13, 13), (0, 10, 17, 15), (0, 10, 21, 20)]).drop 1) (by rw [htb]; rfl) (fun z hz => ?_) (by decide) (by decide) (hts (.classLink RL 13 "java/lang/IndexOutOfBoundsException") (by decide +kernel)) (va_Nw.use rfl (hT.2.2.2.1 1)) h1 h2 h3 ?_
      · exact absurd hz List.not_mem_nil
      · refine lv_astore (lv' := [(4, .ref q9), (0, .ref (ad 0)), (1, .int p0), (2, .int p1), (3, .ref aO)]) hx hb dL_move_13 hl (by decide) rfl (fun ls hl => ?_)
        refine lv_iconst (v := 1) hx hb dL_move_15 (by decide) ?_
        exact W.iret (v := 1) hx hb hr (fun t ht hW => ⟨⟨1, (kh, g), rfl, Or.inr (Or.inl ⟨hw, rfl, rfl, rfl⟩), ⟨by rw [ht]; exact hP, by rw [hAe]; exact hD⟩⟩, hS.F ht⟩) hS.2.2 dL_move_16
    · refine vx_catch (name := "java/lang/IllegalArgumentException") hown ((tableOf [(0, 10, 13, 13), (0, 10, 17, 15), (0, 10, 21, 20)]).take 1) ((tableOf [(0, 10, 13, 13), (0, 10, 17, 15), (0, 10, 21, 20)]).getD 1 default) ((tableOf [(0, 10, 13, 13), (0, 10, 17, 15), (0, 10, 21, 20)]).drop 2) (by rw [htb]; rfl) (fun z hz => ?_) (by decide) (by decide) (hts (.classLink RL 15 "java/lang/IllegalArgumentException") (by decide +kernel)) (va_Nw.use rfl (hT.2.2.2.1 2)) h1 h2 h3 ?_
      · obtain rfl : z = (tableOf [(0, 10, 13, 13), (0, 10, 17, 15), (0, 10, 21, 20)]).getD 0 default := List.mem_singleton.mp hz
        exact Or.inr ⟨by decide, "java/lang/IndexOutOfBoundsException", hts (.classLink RL 13 "java/lang/IndexOutOfBoundsException") (by decide +kernel), hN 2 1 (by decide) (by decide) (by decide) (by decide) (by decide)⟩
      · refine lv_astore (lv' := [(4, .ref q9), (0, .ref (ad 0)), (1, .int p0), (2, .int p1), (3, .ref aO)]) hx hb dL_move_17 hl (by decide) rfl (fun ls hl => ?_)
        refine lv_iconst (v := 2) hx hb dL_move_19 (by decide) ?_
        exact W.iret (v := 2) hx hb hr (fun t ht hW => ⟨⟨2, (kh, g), rfl, Or.inr (Or.inr (Or.inl ⟨hw, rfl, rfl, rfl⟩)), ⟨by rw [ht]; exact hP, by rw [hAe]; exact hD⟩⟩, hS.F ht⟩) hS.2.2 dL_move_20
    · refine vx_catch (name := "java/lang/IllegalStateException") hown ((tableOf [(0, 10, 13, 13), (0, 10, 17, 15), (0, 10, 21, 20)]).take 2) ((tableOf [(0, 10, 13, 13), (0, 10, 17, 15), (0, 10, 21, 20)]).getD 2 default) ((tableOf [(0, 10, 13, 13), (0, 10, 17, 15), (0, 10, 21, 20)]).drop 3) (by rw [htb]; rfl) (fun z hz => ?_) (by decide) (by decide) (hts (.classLink RL 20 "java/lang/IllegalStateException") (by decide +kernel)) (va_Nw.use rfl (hT.2.2.2.1 3)) h1 h2 h3 ?_
      · rcases List.mem_cons.mp hz with rfl | hz
        · exact Or.inr ⟨by decide, "java/lang/IndexOutOfBoundsException", hts (.classLink RL 13 "java/lang/IndexOutOfBoundsException") (by decide +kernel), hN 3 1 (by decide) (by decide) (by decide) (by decide) (by decide)⟩
        · obtain rfl : z = (tableOf [(0, 10, 13, 13), (0, 10, 17, 15), (0, 10, 21, 20)]).getD 1 default := List.mem_singleton.mp hz
          exact Or.inr ⟨by decide, "java/lang/IllegalArgumentException", hts (.classLink RL 15 "java/lang/IllegalArgumentException") (by decide +kernel), hN 3 2 (by decide) (by decide) (by decide) (by decide) (by decide)⟩
      · refine lv_astore (lv' := [(4, .ref q9), (0, .ref (ad 0)), (1, .int p0), (2, .int p1), (3, .ref aO)]) hx hb dL_move_21 hl (by decide) rfl (fun ls hl => ?_)
        refine lv_iconst (v := 3) hx hb dL_move_23 (by decide) ?_
        exact W.iret (v := 3) hx hb hr (fun t ht hW => ⟨⟨3, (kh, g), rfl, Or.inr (Or.inr (Or.inr (⟨hw, rfl, rfl, rfl⟩))), ⟨by rw [ht]; exact hP, by rw [hAe]; exact hD⟩⟩, hS.F ht⟩) hS.2.2 dL_move_24
  · rw [hRd] at hw
    have hP : va_P D vwCl ((kv_kw ci ad kc u ks fo kl kp dy mo n pa aE qp qm ql qv qc qe mt mv sw hv tk tn sc) ++ [((aO, .inl (ci 4, 1, .inr (.inl g))) : Nat × va_E)]) H := hP
    have hD : va_D A ((kv_kw ci ad kc u ks fo kl kp dy mo n pa aE qp qm ql qv qc qe mt mv sw hv tk tn sc) ++ [((aO, .inl (ci 4, 1, .inr (.inl g))) : Nat × va_E)]) := hD
    refine lv_i2l (v := r.toInt64) hx hb dL_move_8 rfl ?_
    refine va_last hx hb hK hP hD hS (kv_kw ci ad kc u ks fo kl kp dy mo n pa aE qp qm ql qv qc qe mt mv sw hv tk tn sc).length 4 kv_last rfl (by unfold vp_in; decide) dL_move_9 (fun H locs hP hD hS => ?_)
    rw [kv_last_set] at hP hD
    refine lv_goto (tgt := 25) hx hb dL_move_10 (by decide) ?_
    refine lv_iconst (v := 0) hx hb dL_move_25 (by decide) ?_
    exact W.iret (v := 0) hx hb hr (fun t ht hW => ⟨⟨0, (u, (vp_updL g 0 r.toInt64)), rfl, Or.inl ⟨r, hw, rfl, rfl⟩, ⟨by rw [ht]; exact hP, by rw [hAe]; exact hD⟩⟩, hS.F ht⟩) hS.2.2 dL_move_26

set_option maxHeartbeats 4000000 in
set_option maxRecDepth 100000 in
theorem c_L_find (l : Launch) (hl9 : l.stackTraces = false) (D : va_G) (ci ad : Nat → Nat) (aS : Nat) (kc : Nat → Int32) (kh : Nat → Int32) (ks : Nat → Int32) (fo : Nat → Nat → Int32) (kl : Nat → Int32) (kp : Nat → Int32) (dy : Int32) (mo : Int32) (n : Nat) (pa : Nat → Nat) (aE : Nat) (qp : Nat → Int32) (qm : Nat → Int32) (ql : Nat → Int32) (qv : Nat → Int32) (qc : Nat → Int32) (qe : Nat → Int32) (mt : Nat → Int32) (mv : Nat → Int32) (sw : Nat → Int32) (hv : Int32) (tk : Nat → Int32) (tn : Nat → Int32) (sc : Nat → Int32) (aO : Nat) (g : Nat → Int64) (p0 : Int32) (p1 : Int32) (p2 : Int32) (hRn : pf_X2_find kl p0 p1 p2 fo ≠ none) (hEx : ∀ c9, pf_X2_find kl p0 p1 p2 fo = some (.inr c9) → c9 = 1 ∨ c9 = 2) (sz : Nat) : Met l yL_find wsL_find ({ frames := 8, cells := 3, slots := 18, locals := 128 } : Room) (va_Pc [.ref (ad 0), .int p0, .int p1, .int p2, .ref aO] (kv_preW D ci aS ((kv_kw ci ad kc kh ks fo kl kp dy mo n pa aE qp qm ql qv qc qe mt mv sw hv tk tn sc) ++ [((aO, .inl (ci 4, 1, .inr (.inl g))) : Nat × va_E)]) sz)) (va_Qi (fun (r : Int32) (u : (Nat → Nat → Int32) × (Nat → Int64)) => (∃ v : Int32, pf_X2_find kl p0 p1 p2 fo = some (.inl (v, u.1)) ∧ r = 0 ∧ u.2 = vp_updL g 0 v.toInt64) ∨ (pf_X2_find kl p0 p1 p2 fo = some (.inr 1) ∧ r = 1 ∧ u.1 = fo ∧ u.2 = g) ∨ (pf_X2_find kl p0 p1 p2 fo = some (.inr 2) ∧ r = 2 ∧ u.1 = fo ∧ u.2 = g)) (fun u t => kv_post D ((kv_kw ci ad kc kh ks fo kl kp dy mo n pa aE qp qm ql qv qc qe mt mv sw hv tk tn sc) ++ [((aO, .inl (ci 4, 1, .inr (.inl g))) : Nat × va_E)]) sz (kv_kw ci ad kc kh ks u.1 kl kp dy mo n pa aE qp qm ql qv qc qe mt mv sw hv tk tn sc ++ [((aO, .inl (ci 4, 1, .inr (.inl u.2))) : Nat × va_E)]) t) (va_A ((kv_kw ci ad kc kh ks fo kl kp dy mo n pa aE qp qm ql qv qc qe mt mv sw hv tk tn sc) ++ [((aO, .inl (ci 4, 1, .inr (.inl g))) : Nat × va_E)]) sz)) 3 18 (va_A ((kv_kw ci ad kc kh ks fo kl kp dy mo n pa aE qp qm ql qv qc qe mt mv sw hv tk tn sc) ++ [((aO, .inl (ci 4, 1, .inr (.inl g))) : Nat × va_E)]) sz) := by
  refine va_MetW (cc := cL_find) (maxL := 6) (ret := (some .int)) (by decide) rfl ?_
  intro p en s m args below meth c s₁ B hml hv
  obtain ⟨hv0, ⟨⟨⟨hsz, hP, hK, hD0⟩, hT⟩, hT2⟩, hN⟩ := hv
  have hx := B.exec
  have hb := B.bytes
  have hr := B.returns
  have hts := atoms_spec (ws := wsL_find) B.pre
  have hown : s.vm.findClass RL = some m.cls := findClass_of_methodNamed B.named
  have hlocks := B.notSynchronized
  subst hsz
  have hD := hD0.self (sz := s.heap.size)
  generalize hAe : va_A ((kv_kw ci ad kc kh ks fo kl kp dy mo n pa aE qp qm ql qv qc qe mt mv sw hv tk tn sc) ++ [((aO, .inl (ci 4, 1, .inr (.inl g))) : Nat × va_E)]) s.heap.size = A at hD hT hT2 ⊢
  have hA : ∀ q : Nat, s.heap.size ≤ q → A q := fun q h => by rw [← hAe]; exact Or.inr h
  have hS : va_S A s.heap s.heap [] := va_S.rf
  have htb : c.exceptionTable.toList = tableOf [(0, 12, 15, 13), (0, 12, 19, 15)] := vx_table (x := yL_find) B (hts (.codeWith yL_find cL_find 6 (some .int) [(0, 12, 15, 13), (0, 12, 19, 15)]) (by decide +kernel))
  refine W.eq (show entryFrame m args 6 = _ from by rw [hv0, lg_entry_eq]) ?_
  have hl := lv_entry ([.ref (ad 0), .int p0, .int p1, .int p2, .ref aO]) (n := 6) (Nat.le_of_ble_eq_true rfl)
  generalize (lg_sl ([.ref (ad 0), .int p0, .int p1, .int p2, .ref aO]) ++ List.replicate (6 - (lg_sl ([.ref (ad 0), .int p0, .int p1, .int p2, .ref aO])).length) Slot.unset).toArray = ls at hl ⊢
  have hl : lv_has ls 6 [(0, .ref (ad 0)), (1, .int p0), (2, .int p1), (3, .int p2), (4, .ref aO)] := hl
  generalize hRd : pf_X2_find kl p0 p1 p2 fo = Rz at hRn hEx ⊢
  refine lv_aload hx hb dL_find_0 (lv_at hl 4 rfl) ?_
  refine lv_iconst (v := 0) hx hb dL_find_2 (by decide) ?_
  refine lv_aload_n hx hb dL_find_3 rfl (lv_at hl 0 rfl) ?_
  refine lv_iload_n hx hb dL_find_4 rfl (lv_at hl 1 rfl) ?_
  refine lv_iload_n hx hb dL_find_5 rfl (lv_at hl 2 rfl) ?_
  refine lv_iload_n hx hb dL_find_6 rfl (lv_at hl 3 rfl) ?_
  refine kv_xcalliF (vx_runV (As := [.int p0, .int p1, .int p2]) (rest := [.int 0, .ref aO]) ⟨hx, hb, hml, hown, hts⟩ (c_X2_find l hl9 D ci ad kc kh ks fo kl kp dy mo n pa aE qp qm ql qv qc qe mt mv sw hv tk tn sc p0 p1 p2 (by rw [hRd]; exact hRn) s.heap.size) (cwV 3 hts gL_find_X2_find rfl rfl rfl (by decide +kernel) ⟨Nat.le_of_ble_eq_true rfl, Nat.le_of_ble_eq_true rfl⟩) (kv_preVX hK (kv_Pl hP) (kv_Dl hD) hT hS hA (r := (RX2, TX2, 9)) (q0 := 0) (k := 3) rfl rfl rfl) rfl rfl hl.1 rfl (lv_room (Nat.le_of_ble_eq_true rfl)) dL_find_7 ⟨Nat.le_of_ble_eq_true rfl, Nat.le_of_ble_eq_true rfl⟩) hP hD hS hA (fun ce q9 u9 H locs hw hP hD hS h1 h2 h3 => ?_) (fun r u H locs hw hP hD hS => ?_)
  · rw [hRd] at hw
    rcases hEx _ hw with rfl | rfl
    · refine vx_catch (name := "java/lang/IndexOutOfBoundsException") hown ((tableOf [(0, 12, 15, 13), (0, 12, 19, 15)]).take 0) ((tableOf [(0, 12, 15, 13), (0, 12, 19, 15)]).getD 0 default) ((tableOf [(0, 12, 15, 13), (0, 12, 19, 15)]).drop 1) (by rw [htb]; rfl) (fun z hz => ?_) (by decide) (by decide) (hts (.classLink RL 13 "java/lang/IndexOutOfBoundsException") (by decide +kernel)) (va_Nw.use rfl (hT.2.2.2.1 1)) h1 h2 h3 ?_
      · exact absurd hz List.not_mem_nil
      · refine lv_astore (lv' := [(5, .ref q9), (0, .ref (ad 0)), (1, .int p0), (2, .int p1), (3, .int p2), (4, .ref aO)]) hx hb dL_find_15 hl (by decide) rfl (fun ls hl => ?_)
        refine lv_iconst (v := 1) hx hb dL_find_17 (by decide) ?_
        exact W.iret (v := 1) hx hb hr (fun t ht hW => ⟨⟨1, (fo, g), rfl, Or.inr (Or.inl ⟨hw, rfl, rfl, rfl⟩), ⟨by rw [ht]; exact hP, by rw [hAe]; exact hD⟩⟩, hS.F ht⟩) hS.2.2 dL_find_18
    · refine vx_catch (name := "java/lang/IllegalArgumentException") hown ((tableOf [(0, 12, 15, 13), (0, 12, 19, 15)]).take 1) ((tableOf [(0, 12, 15, 13), (0, 12, 19, 15)]).getD 1 default) ((tableOf [(0, 12, 15, 13), (0, 12, 19, 15)]).drop 2) (by rw [htb]; rfl) (fun z hz => ?_) (by decide) (by decide) (hts (.classLink RL 15 "java/lang/IllegalArgumentException") (by decide +kernel)) (va_Nw.use rfl (hT.2.2.2.1 2)) h1 h2 h3 ?_
      · obtain rfl : z = (tableOf [(0, 12, 15, 13), (0, 12, 19, 15)]).getD 0 default := List.mem_singleton.mp hz
        exact Or.inr ⟨by decide, "java/lang/IndexOutOfBoundsException", hts (.classLink RL 13 "java/lang/IndexOutOfBoundsException") (by decide +kernel), hN 2 1 (by decide) (by decide) (by decide) (by decide) (by decide)⟩
      · refine lv_astore (lv' := [(5, .ref q9), (0, .ref (ad 0)), (1, .int p0), (2, .int p1), (3, .int p2), (4, .ref aO)]) hx hb dL_find_19 hl (by decide) rfl (fun ls hl => ?_)
        refine lv_iconst (v := 2) hx hb dL_find_21 (by decide) ?_
        exact W.iret (v := 2) hx hb hr (fun t ht hW => ⟨⟨2, (fo, g), rfl, Or.inr (Or.inr (⟨hw, rfl, rfl, rfl⟩)), ⟨by rw [ht]; exact hP, by rw [hAe]; exact hD⟩⟩, hS.F ht⟩) hS.2.2 dL_find_22
  · rw [hRd] at hw
    have hP : va_P D vwCl ((kv_kw ci ad kc kh ks u kl kp dy mo n pa aE qp qm ql qv qc qe mt mv sw hv tk tn sc) ++ [((aO, .inl (ci 4, 1, .inr (.inl g))) : Nat × va_E)]) H := hP
    have hD : va_D A ((kv_kw ci ad kc kh ks u kl kp dy mo n pa aE qp qm ql qv qc qe mt mv sw hv tk tn sc) ++ [((aO, .inl (ci 4, 1, .inr (.inl g))) : Nat × va_E)]) := hD
    refine lv_i2l (v := r.toInt64) hx hb dL_find_10 rfl ?_
    refine va_last hx hb hK hP hD hS (kv_kw ci ad kc kh ks u kl kp dy mo n pa aE qp qm ql qv qc qe mt mv sw hv tk tn sc).length 4 kv_last rfl (by unfold vp_in; decide) dL_find_11 (fun H locs hP hD hS => ?_)
    rw [kv_last_set] at hP hD
    refine lv_goto (tgt := 23) hx hb dL_find_12 (by decide) ?_
    refine lv_iconst (v := 0) hx hb dL_find_23 (by decide) ?_
    exact W.iret (v := 0) hx hb hr (fun t ht hW => ⟨⟨0, (u, (vp_updL g 0 r.toInt64)), rfl, Or.inl ⟨r, hw, rfl, rfl⟩, ⟨by rw [ht]; exact hP, by rw [hAe]; exact hD⟩⟩, hS.F ht⟩) hS.2.2 dL_find_24

set_option maxHeartbeats 4000000 in
set_option maxRecDepth 100000 in
theorem c_L_setPrice (l : Launch) (hl9 : l.stackTraces = false) (D : va_G) (ci ad : Nat → Nat) (aS : Nat) (kc : Nat → Int32) (kh : Nat → Int32) (ks : Nat → Int32) (fo : Nat → Nat → Int32) (kl : Nat → Int32) (kp : Nat → Int32) (dy : Int32) (mo : Int32) (n : Nat) (pa : Nat → Nat) (aE : Nat) (qp : Nat → Int32) (qm : Nat → Int32) (ql : Nat → Int32) (qv : Nat → Int32) (qc : Nat → Int32) (qe : Nat → Int32) (mt : Nat → Int32) (mv : Nat → Int32) (sw : Nat → Int32) (hv : Int32) (tk : Nat → Int32) (tn : Nat → Int32) (sc : Nat → Int32) (aO : Nat) (g : Nat → Int64) (p0 : Int32) (p1 : Int32) (hRn : pf_X2_setPrice p0 p1 kp ≠ none) (hEx : ∀ c9, pf_X2_setPrice p0 p1 kp = some (.inr c9) → c9 = 1 ∨ c9 = 2) (sz : Nat) : Met l yL_setPrice wsL_setPrice ({ frames := 8, cells := 2, slots := 12, locals := 127 } : Room) (va_Pc [.ref (ad 0), .int p0, .int p1, .ref aO] (kv_preW D ci aS ((kv_kw ci ad kc kh ks fo kl kp dy mo n pa aE qp qm ql qv qc qe mt mv sw hv tk tn sc) ++ [((aO, .inl (ci 4, 1, .inr (.inl g))) : Nat × va_E)]) sz)) (va_Qi (fun (r : Int32) (u : (Nat → Int32) × (Nat → Int64)) => (∃ v : Int32, pf_X2_setPrice p0 p1 kp = some (.inl (v, u.1)) ∧ r = 0 ∧ u.2 = vp_updL g 0 v.toInt64) ∨ (pf_X2_setPrice p0 p1 kp = some (.inr 1) ∧ r = 1 ∧ u.1 = kp ∧ u.2 = g) ∨ (pf_X2_setPrice p0 p1 kp = some (.inr 2) ∧ r = 2 ∧ u.1 = kp ∧ u.2 = g)) (fun u t => kv_post D ((kv_kw ci ad kc kh ks fo kl kp dy mo n pa aE qp qm ql qv qc qe mt mv sw hv tk tn sc) ++ [((aO, .inl (ci 4, 1, .inr (.inl g))) : Nat × va_E)]) sz (kv_kw ci ad kc kh ks fo kl u.1 dy mo n pa aE qp qm ql qv qc qe mt mv sw hv tk tn sc ++ [((aO, .inl (ci 4, 1, .inr (.inl u.2))) : Nat × va_E)]) t) (va_A ((kv_kw ci ad kc kh ks fo kl kp dy mo n pa aE qp qm ql qv qc qe mt mv sw hv tk tn sc) ++ [((aO, .inl (ci 4, 1, .inr (.inl g))) : Nat × va_E)]) sz)) 2 12 (va_A ((kv_kw ci ad kc kh ks fo kl kp dy mo n pa aE qp qm ql qv qc qe mt mv sw hv tk tn sc) ++ [((aO, .inl (ci 4, 1, .inr (.inl g))) : Nat × va_E)]) sz) := by
  refine va_MetW (cc := cL_setPrice) (maxL := 5) (ret := (some .int)) (by decide) rfl ?_
  intro p en s m args below meth c s₁ B hml hv
  obtain ⟨hv0, ⟨⟨⟨hsz, hP, hK, hD0⟩, hT⟩, hT2⟩, hN⟩ := hv
  have hx := B.exec
  have hb := B.bytes
  have hr := B.returns
  have hts := atoms_spec (ws := wsL_setPrice) B.pre
  have hown : s.vm.findClass RL = some m.cls := findClass_of_methodNamed B.named
  have hlocks := B.notSynchronized
  subst hsz
  have hD := hD0.self (sz := s.heap.size)
  generalize hAe : va_A ((kv_kw ci ad kc kh ks fo kl kp dy mo n pa aE qp qm ql qv qc qe mt mv sw hv tk tn sc) ++ [((aO, .inl (ci 4, 1, .inr (.inl g))) : Nat × va_E)]) s.heap.size = A at hD hT hT2 ⊢
  have hA : ∀ q : Nat, s.heap.size ≤ q → A q := fun q h => by rw [← hAe]; exact Or.inr h
  have hS : va_S A s.heap s.heap [] := va_S.rf
  have htb : c.exceptionTable.toList = tableOf [(0, 10, 13, 13), (0, 10, 17, 15)] := vx_table (x := yL_setPrice) B (hts (.codeWith yL_setPrice cL_setPrice 5 (some .int) [(0, 10, 13, 13), (0, 10, 17, 15)]) (by decide +kernel))
  refine W.eq (show entryFrame m args 5 = _ from by rw [hv0, lg_entry_eq]) ?_
  have hl := lv_entry ([.ref (ad 0), .int p0, .int p1, .ref aO]) (n := 5) (Nat.le_of_ble_eq_true rfl)
  generalize (lg_sl ([.ref (ad 0), .int p0, .int p1, .ref aO]) ++ List.replicate (5 - (lg_sl ([.ref (ad 0), .int p0, .int p1, .ref aO])).length) Slot.unset).toArray = ls at hl ⊢
  have hl : lv_has ls 5 [(0, .ref (ad 0)), (1, .int p0), (2, .int p1), (3, .ref aO)] := hl
  generalize hRd : pf_X2_setPrice p0 p1 kp = Rz at hRn hEx ⊢
  refine lv_aload_n hx hb dL_setPrice_0 rfl (lv_at hl 3 rfl) ?_
  refine lv_iconst (v := 0) hx hb dL_setPrice_1 (by decide) ?_
  refine lv_aload_n hx hb dL_setPrice_2 rfl (lv_at hl 0 rfl) ?_
  refine lv_iload_n hx hb dL_setPrice_3 rfl (lv_at hl 1 rfl) ?_
  refine lv_iload_n hx hb dL_setPrice_4 rfl (lv_at hl 2 rfl) ?_
  refine kv_xcalliF (vx_runV (As := [.int p0, .int p1]) (rest := [.int 0, .ref aO]) ⟨hx, hb, hml, hown, hts⟩ (c_X2_setPrice l hl9 D ci ad kc kh ks fo kl kp dy mo n pa aE qp qm ql qv qc qe mt mv sw hv tk tn sc p0 p1 (by rw [hRd]; exact hRn) s.heap.size) (cwV 2 hts gL_setPrice_X2_setPrice rfl rfl rfl (by decide +kernel) ⟨Nat.le_of_ble_eq_true rfl, Nat.le_of_ble_eq_true rfl⟩) (kv_preVX hK (kv_Pl hP) (kv_Dl hD) hT hS hA (r := (RX2, TX2, 9)) (q0 := 0) (k := 3) rfl rfl rfl) rfl rfl hl.1 rfl (lv_room (Nat.le_of_ble_eq_true rfl)) dL_setPrice_5 ⟨Nat.le_of_ble_eq_true rfl, Nat.le_of_ble_eq_true rfl⟩) hP hD hS hA (fun ce q9 u9 H locs hw hP hD hS h1 h2 h3 => ?_) (fun r u H locs hw hP hD hS => ?_)
  · rw [hRd] at hw
    rcases hEx _ hw with rfl | rfl
    · refine vx_catch (name := "java/lang/IndexOutOfBoundsException") hown ((tableOf [(0, 10, 13, 13), (0, 10, 17, 15)]).take 0) ((tableOf [(0, 10, 13, 13), (0, 10, 17, 15)]).getD 0 default) ((tableOf [(0, 10, 13, 13), (0, 10, 17, 15)]).drop 1) (by rw [htb]; rfl) (fun z hz => ?_) (by decide) (by decide) (hts (.classLink RL 13 "java/lang/IndexOutOfBoundsException") (by decide +kernel)) (va_Nw.use rfl (hT.2.2.2.1 1)) h1 h2 h3 ?_
      · exact absurd hz List.not_mem_nil
      · refine lv_astore (lv' := [(4, .ref q9), (0, .ref (ad 0)), (1, .int p0), (2, .int p1), (3, .ref aO)]) hx hb dL_setPrice_13 hl (by decide) rfl (fun ls hl => ?_)
        refine lv_iconst (v := 1) hx hb dL_setPrice_15 (by decide) ?_
        exact W.iret (v := 1) hx hb hr (fun t ht hW => ⟨⟨1, (kp, g), rfl, Or.inr (Or.inl ⟨hw, rfl, rfl, rfl⟩), ⟨by rw [ht]; exact hP, by rw [hAe]; exact hD⟩⟩, hS.F ht⟩) hS.2.2 dL_setPrice_16
    · refine vx_catch (name := "java/lang/IllegalArgumentException") hown ((tableOf [(0, 10, 13, 13), (0, 10, 17, 15)]).take 1) ((tableOf [(0, 10, 13, 13), (0, 10, 17, 15)]).getD 1 default) ((tableOf [(0, 10, 13, 13), (0, 10, 17, 15)]).drop 2) (by rw [htb]; rfl) (fun z hz => ?_) (by decide) (by decide) (hts (.classLink RL 15 "java/lang/IllegalArgumentException") (by decide +kernel)) (va_Nw.use rfl (hT.2.2.2.1 2)) h1 h2 h3 ?_
      · obtain rfl : z = (tableOf [(0, 10, 13, 13), (0, 10, 17, 15)]).getD 0 default := List.mem_singleton.mp hz
        exact Or.inr ⟨by decide, "java/lang/IndexOutOfBoundsException", hts (.classLink RL 13 "java/lang/IndexOutOfBoundsException") (by decide +kernel), hN 2 1 (by decide) (by decide) (by decide) (by decide) (by decide)⟩
      · refine lv_astore (lv' := [(4, .ref q9), (0, .ref (ad 0)), (1, .int p0), (2, .int p1), (3, .ref aO)]) hx hb dL_setPrice_17 hl (by decide) rfl (fun ls hl => ?_)
        refine lv_iconst (v := 2) hx hb dL_setPrice_19 (by decide) ?_
        exact W.iret (v := 2) hx hb hr (fun t ht hW => ⟨⟨2, (kp, g), rfl, Or.inr (Or.inr (⟨hw, rfl, rfl, rfl⟩)), ⟨by rw [ht]; exact hP, by rw [hAe]; exact hD⟩⟩, hS.F ht⟩) hS.2.2 dL_setPrice_20
  · rw [hRd] at hw
    have hP : va_P D vwCl ((kv_kw ci ad kc kh ks fo kl u dy mo n pa aE qp qm ql qv qc qe mt mv sw hv tk tn sc) ++ [((aO, .inl (ci 4, 1, .inr (.inl g))) : Nat × va_E)]) H := hP
    have hD : va_D A ((kv_kw ci ad kc kh ks fo kl u dy mo n pa aE qp qm ql qv qc qe mt mv sw hv tk tn sc) ++ [((aO, .inl (ci 4, 1, .inr (.inl g))) : Nat × va_E)]) := hD
    refine lv_i2l (v := r.toInt64) hx hb dL_setPrice_8 rfl ?_
    refine va_last hx hb hK hP hD hS (kv_kw ci ad kc kh ks fo kl u dy mo n pa aE qp qm ql qv qc qe mt mv sw hv tk tn sc).length 4 kv_last rfl (by unfold vp_in; decide) dL_setPrice_9 (fun H locs hP hD hS => ?_)
    rw [kv_last_set] at hP hD
    refine lv_goto (tgt := 21) hx hb dL_setPrice_10 (by decide) ?_
    refine lv_iconst (v := 0) hx hb dL_setPrice_21 (by decide) ?_
    exact W.iret (v := 0) hx hb hr (fun t ht hW => ⟨⟨0, (u, (vp_updL g 0 r.toInt64)), rfl, Or.inl ⟨r, hw, rfl, rfl⟩, ⟨by rw [ht]; exact hP, by rw [hAe]; exact hD⟩⟩, hS.F ht⟩) hS.2.2 dL_setPrice_22

set_option maxHeartbeats 4000000 in
set_option maxRecDepth 100000 in
theorem c_L_release (l : Launch) (hl9 : l.stackTraces = false) (D : va_G) (ci ad : Nat → Nat) (aS : Nat) (kc : Nat → Int32) (kh : Nat → Int32) (ks : Nat → Int32) (fo : Nat → Nat → Int32) (kl : Nat → Int32) (kp : Nat → Int32) (dy : Int32) (mo : Int32) (n : Nat) (pa : Nat → Nat) (aE : Nat) (qp : Nat → Int32) (qm : Nat → Int32) (ql : Nat → Int32) (qv : Nat → Int32) (qc : Nat → Int32) (qe : Nat → Int32) (mt : Nat → Int32) (mv : Nat → Int32) (sw : Nat → Int32) (hv : Int32) (tk : Nat → Int32) (tn : Nat → Int32) (sc : Nat → Int32) (aO : Nat) (g : Nat → Int64) (p0 : Int32) (hRn : pf_X2_release dy n qp ql p0 kl qv ≠ none) (hEx : ∀ c9, pf_X2_release dy n qp ql p0 kl qv = some (.inr c9) → c9 = 1 ∨ c9 = 3) (sz : Nat) : Met l yL_release wsL_release ({ frames := 8, cells := 2, slots := 12, locals := 127 } : Room) (va_Pc [.ref (ad 0), .int p0, .ref aO] (kv_preW D ci aS ((kv_kw ci ad kc kh ks fo kl kp dy mo n pa aE qp qm ql qv qc qe mt mv sw hv tk tn sc) ++ [((aO, .inl (ci 4, 1, .inr (.inl g))) : Nat × va_E)]) sz)) (va_Qi (fun (r : Int32) (u : (Nat → Int32) × (Nat → Int32) × (Nat → Int64)) => (∃ v : Int32, pf_X2_release dy n qp ql p0 kl qv = some (.inl (v, u.1, u.2.1)) ∧ r = 0 ∧ u.2.2 = vp_updL g 0 v.toInt64) ∨ (pf_X2_release dy n qp ql p0 kl qv = some (.inr 1) ∧ r = 1 ∧ u.1 = kl ∧ u.2.1 = qv ∧ u.2.2 = g) ∨ (pf_X2_release dy n qp ql p0 kl qv = some (.inr 3) ∧ r = 2 ∧ u.1 = kl ∧ u.2.1 = qv ∧ u.2.2 = g)) (fun u t => kv_post D ((kv_kw ci ad kc kh ks fo kl kp dy mo n pa aE qp qm ql qv qc qe mt mv sw hv tk tn sc) ++ [((aO, .inl (ci 4, 1, .inr (.inl g))) : Nat × va_E)]) sz (kv_kw ci ad kc kh ks fo u.1 kp dy mo n pa aE qp qm ql u.2.1 qc qe mt mv sw hv tk tn sc ++ [((aO, .inl (ci 4, 1, .inr (.inl u.2.2))) : Nat × va_E)]) t) (va_A ((kv_kw ci ad kc kh ks fo kl kp dy mo n pa aE qp qm ql qv qc qe mt mv sw hv tk tn sc) ++ [((aO, .inl (ci 4, 1, .inr (.inl g))) : Nat × va_E)]) sz)) 2 12 (va_A ((kv_kw ci ad kc kh ks fo kl kp dy mo n pa aE qp qm ql qv qc qe mt mv sw hv tk tn sc) ++ [((aO, .inl (ci 4, 1, .inr (.inl g))) : Nat × va_E)]) sz) := by
  refine va_MetW (cc := cL_release) (maxL := 4) (ret := (some .int)) (by decide) rfl ?_
  intro p en s m args below meth c s₁ B hml hv
  obtain ⟨hv0, ⟨⟨⟨hsz, hP, hK, hD0⟩, hT⟩, hT2⟩, hN⟩ := hv
  have hx := B.exec
  have hb := B.bytes
  have hr := B.returns
  have hts := atoms_spec (ws := wsL_release) B.pre
  have hown : s.vm.findClass RL = some m.cls := findClass_of_methodNamed B.named
  have hlocks := B.notSynchronized
  subst hsz
  have hD := hD0.self (sz := s.heap.size)
  generalize hAe : va_A ((kv_kw ci ad kc kh ks fo kl kp dy mo n pa aE qp qm ql qv qc qe mt mv sw hv tk tn sc) ++ [((aO, .inl (ci 4, 1, .inr (.inl g))) : Nat × va_E)]) s.heap.size = A at hD hT hT2 ⊢
  have hA : ∀ q : Nat, s.heap.size ≤ q → A q := fun q h => by rw [← hAe]; exact Or.inr h
  have hS : va_S A s.heap s.heap [] := va_S.rf
  have htb : c.exceptionTable.toList = tableOf [(0, 9, 12, 13), (0, 9, 15, 20)] := vx_table (x := yL_release) B (hts (.codeWith yL_release cL_release 4 (some .int) [(0, 9, 12, 13), (0, 9, 15, 20)]) (by decide +kernel))
  refine W.eq (show entryFrame m args 4 = _ from by rw [hv0, lg_entry_eq]) ?_
  have hl := lv_entry ([.ref (ad 0), .int p0, .ref aO]) (n := 4) (Nat.le_of_ble_eq_true rfl)
  generalize (lg_sl ([.ref (ad 0), .int p0, .ref aO]) ++ List.replicate (4 - (lg_sl ([.ref (ad 0), .int p0, .ref aO])).length) Slot.unset).toArray = ls at hl ⊢
  have hl : lv_has ls 4 [(0, .ref (ad 0)), (1, .int p0), (2, .ref aO)] := hl
  generalize hRd : pf_X2_release dy n qp ql p0 kl qv = Rz at hRn hEx ⊢
  refine lv_aload_n hx hb dL_release_0 rfl (lv_at hl 2 rfl) ?_
  refine lv_iconst (v := 0) hx hb dL_release_1 (by decide) ?_
  refine lv_aload_n hx hb dL_release_2 rfl (lv_at hl 0 rfl) ?_
  refine lv_iload_n hx hb dL_release_3 rfl (lv_at hl 1 rfl) ?_
  refine kv_xcalliF (vx_runV (As := [.int p0]) (rest := [.int 0, .ref aO]) ⟨hx, hb, hml, hown, hts⟩ (c_X2_release l hl9 D ci ad kc kh ks fo kl kp dy mo n pa aE qp qm ql qv qc qe mt mv sw hv tk tn sc p0 (by rw [hRd]; exact hRn) s.heap.size) (cwV 1 hts gL_release_X2_release rfl rfl rfl (by decide +kernel) ⟨Nat.le_of_ble_eq_true rfl, Nat.le_of_ble_eq_true rfl⟩) (kv_preVX hK (kv_Pl hP) (kv_Dl hD) hT hS hA (r := (RX2, TX2, 9)) (q0 := 0) (k := 3) rfl rfl rfl) rfl rfl hl.1 rfl (lv_room (Nat.le_of_ble_eq_true rfl)) dL_release_4 ⟨Nat.le_of_ble_eq_true rfl, Nat.le_of_ble_eq_true rfl⟩) hP hD hS hA (fun ce q9 u9 H locs hw hP hD hS h1 h2 h3 => ?_) (fun r u H locs hw hP hD hS => ?_)
  · rw [hRd] at hw
    rcases hEx _ hw with rfl | rfl
    · refine vx_catch (name := "java/lang/IndexOutOfBoundsException") hown ((tableOf [(0, 9, 12, 13), (0, 9, 15, 20)]).take 0) ((tableOf [(0, 9, 12, 13), (0, 9, 15, 20)]).getD 0 default) ((tableOf [(0, 9, 12, 13), (0, 9, 15, 20)]).drop 1) (by rw [htb]; rfl) (fun z hz => ?_) (by decide) (by decide) (hts (.classLink RL 13 "java/lang/IndexOutOfBoundsException") (by decide +kernel)) (va_Nw.use rfl (hT.2.2.2.1 1)) h1 h2 h3 ?_
      · exact absurd hz List.not_mem_nil
      · refine lv_astore_n (lv' := [(3, .ref q9), (0, .ref (ad 0)), (1, .int p0), (2, .ref aO)]) hx hb dL_release_12 rfl hl (by decide) rfl (fun ls hl => ?_)
        refine lv_iconst (v := 1) hx hb dL_release_13 (by decide) ?_
        exact W.iret (v := 1) hx hb hr (fun t ht hW => ⟨⟨1, (kl, qv, g), rfl, Or.inr (Or.inl ⟨hw, rfl, rfl, rfl, rfl⟩), ⟨by rw [ht]; exact hP, by rw [hAe]; exact hD⟩⟩, hS.F ht⟩) hS.2.2 dL_release_14
    · refine vx_catch (name := "java/lang/IllegalStateException") hown ((tableOf [(0, 9, 12, 13), (0, 9, 15, 20)]).take 1) ((tableOf [(0, 9, 12, 13), (0, 9, 15, 20)]).getD 1 default) ((tableOf [(0, 9, 12, 13), (0, 9, 15, 20)]).drop 2) (by rw [htb]; rfl) (fun z hz => ?_) (by decide) (by decide) (hts (.classLink RL 20 "java/lang/IllegalStateException") (by decide +kernel)) (va_Nw.use rfl (hT.2.2.2.1 3)) h1 h2 h3 ?_
      · obtain rfl : z = (tableOf [(0, 9, 12, 13), (0, 9, 15, 20)]).getD 0 default := List.mem_singleton.mp hz
        exact Or.inr ⟨by decide, "java/lang/IndexOutOfBoundsException", hts (.classLink RL 13 "java/lang/IndexOutOfBoundsException") (by decide +kernel), hN 3 1 (by decide) (by decide) (by decide) (by decide) (by decide)⟩
      · refine lv_astore_n (lv' := [(3, .ref q9), (0, .ref (ad 0)), (1, .int p0), (2, .ref aO)]) hx hb dL_release_15 rfl hl (by decide) rfl (fun ls hl => ?_)
        refine lv_iconst (v := 2) hx hb dL_release_16 (by decide) ?_
        exact W.iret (v := 2) hx hb hr (fun t ht hW => ⟨⟨2, (kl, qv, g), rfl, Or.inr (Or.inr (⟨hw, rfl, rfl, rfl, rfl⟩)), ⟨by rw [ht]; exact hP, by rw [hAe]; exact hD⟩⟩, hS.F ht⟩) hS.2.2 dL_release_17
  · rw [hRd] at hw
    obtain ⟨o0, o1⟩ := u
    have hP : va_P D vwCl ((kv_kw ci ad kc kh ks fo o0 kp dy mo n pa aE qp qm ql o1 qc qe mt mv sw hv tk tn sc) ++ [((aO, .inl (ci 4, 1, .inr (.inl g))) : Nat × va_E)]) H := hP
    have hD : va_D A ((kv_kw ci ad kc kh ks fo o0 kp dy mo n pa aE qp qm ql o1 qc qe mt mv sw hv tk tn sc) ++ [((aO, .inl (ci 4, 1, .inr (.inl g))) : Nat × va_E)]) := hD
    refine lv_i2l (v := r.toInt64) hx hb dL_release_7 rfl ?_
    refine va_last hx hb hK hP hD hS (kv_kw ci ad kc kh ks fo o0 kp dy mo n pa aE qp qm ql o1 qc qe mt mv sw hv tk tn sc).length 4 kv_last rfl (by unfold vp_in; decide) dL_release_8 (fun H locs hP hD hS => ?_)
    rw [kv_last_set] at hP hD
    refine lv_goto (tgt := 18) hx hb dL_release_9 (by decide) ?_
    refine lv_iconst (v := 0) hx hb dL_release_18 (by decide) ?_
    exact W.iret (v := 0) hx hb hr (fun t ht hW => ⟨⟨0, (o0, o1, (vp_updL g 0 r.toInt64)), rfl, Or.inl ⟨r, hw, rfl, rfl⟩, ⟨by rw [ht]; exact hP, by rw [hAe]; exact hD⟩⟩, hS.F ht⟩) hS.2.2 dL_release_19

set_option maxHeartbeats 4000000 in
set_option maxRecDepth 100000 in
theorem c_L_buy (l : Launch) (hl9 : l.stackTraces = false) (D : va_G) (ci ad : Nat → Nat) (aS : Nat) (kc : Nat → Int32) (kh : Nat → Int32) (ks : Nat → Int32) (fo : Nat → Nat → Int32) (kl : Nat → Int32) (kp : Nat → Int32) (dy : Int32) (mo : Int32) (n : Nat) (pa : Nat → Nat) (aE : Nat) (qp : Nat → Int32) (qm : Nat → Int32) (ql : Nat → Int32) (qv : Nat → Int32) (qc : Nat → Int32) (qe : Nat → Int32) (mt : Nat → Int32) (mv : Nat → Int32) (sw : Nat → Int32) (hv : Int32) (tk : Nat → Int32) (tn : Nat → Int32) (sc : Nat → Int32) (aO : Nat) (g : Nat → Int64) (p0 : Int32) (p1 : Int32) (p2 : Int32) (p3 : Int32) (hE : n = 0 → aE = aS) (hRn : pf_X2_buy kl dy p0 p1 p2 p3 mo n qp qm ql qv qc qe ≠ none) (hEx : ∀ c9, pf_X2_buy kl dy p0 p1 p2 p3 mo n qp qm ql qv qc qe = some (.inr c9) → c9 = 1 ∨ c9 = 2 ∨ c9 = 3) (sz : Nat) : Met l yL_buy wsL_buy ({ frames := 9, cells := 7, slots := 51, locals := 239 } : Room) (va_Pc [.ref (ad 0), .int p0, .int p1, .int p2, .int p3, .ref aO] (kv_preW D ci aS ((kv_kw ci ad kc kh ks fo kl kp dy mo n pa aE qp qm ql qv qc qe mt mv sw hv tk tn sc) ++ [((aO, .inl (ci 4, 1, .inr (.inl g))) : Nat × va_E)]) sz)) (va_Qi (fun (r : Int32) (u : Int32 × Nat × (Nat → Int32) × (Nat → Int32) × (Nat → Int32) × (Nat → Int32) × (Nat → Int32) × (Nat → Int32) × (Nat → Nat) × Nat × (Nat → Int64)) => (∃ v : Int32, pf_X2_buy kl dy p0 p1 p2 p3 mo n qp qm ql qv qc qe = some (.inl (v, u.1, u.2.1, u.2.2.1, u.2.2.2.1, u.2.2.2.2.1, u.2.2.2.2.2.1, u.2.2.2.2.2.2.1, u.2.2.2.2.2.2.2.1)) ∧ r = 0 ∧ u.2.2.2.2.2.2.2.2.2.2 = vp_updL g 0 v.toInt64) ∨ (pf_X2_buy kl dy p0 p1 p2 p3 mo n qp qm ql qv qc qe = some (.inr 1) ∧ r = 1 ∧ u.1 = mo ∧ u.2.1 = n ∧ u.2.2.1 = qp ∧ u.2.2.2.1 = qm ∧ u.2.2.2.2.1 = ql ∧ u.2.2.2.2.2.1 = qv ∧ u.2.2.2.2.2.2.1 = qc ∧ u.2.2.2.2.2.2.2.1 = qe ∧ u.2.2.2.2.2.2.2.2.1 = pa ∧ u.2.2.2.2.2.2.2.2.2.1 = aE ∧ u.2.2.2.2.2.2.2.2.2.2 = g) ∨ (pf_X2_buy kl dy p0 p1 p2 p3 mo n qp qm ql qv qc qe = some (.inr 2) ∧ r = 2 ∧ u.1 = mo ∧ u.2.1 = n ∧ u.2.2.1 = qp ∧ u.2.2.2.1 = qm ∧ u.2.2.2.2.1 = ql ∧ u.2.2.2.2.2.1 = qv ∧ u.2.2.2.2.2.2.1 = qc ∧ u.2.2.2.2.2.2.2.1 = qe ∧ u.2.2.2.2.2.2.2.2.1 = pa ∧ u.2.2.2.2.2.2.2.2.2.1 = aE ∧ u.2.2.2.2.2.2.2.2.2.2 = g) ∨ (pf_X2_buy kl dy p0 p1 p2 p3 mo n qp qm ql qv qc qe = some (.inr 3) ∧ r = 3 ∧ u.1 = mo ∧ u.2.1 = n ∧ u.2.2.1 = qp ∧ u.2.2.2.1 = qm ∧ u.2.2.2.2.1 = ql ∧ u.2.2.2.2.2.1 = qv ∧ u.2.2.2.2.2.2.1 = qc ∧ u.2.2.2.2.2.2.2.1 = qe ∧ u.2.2.2.2.2.2.2.2.1 = pa ∧ u.2.2.2.2.2.2.2.2.2.1 = aE ∧ u.2.2.2.2.2.2.2.2.2.2 = g)) (fun u t => kv_post D ((kv_kw ci ad kc kh ks fo kl kp dy mo n pa aE qp qm ql qv qc qe mt mv sw hv tk tn sc) ++ [((aO, .inl (ci 4, 1, .inr (.inl g))) : Nat × va_E)]) sz (kv_kw ci ad kc kh ks fo kl kp dy u.1 u.2.1 u.2.2.2.2.2.2.2.2.1 u.2.2.2.2.2.2.2.2.2.1 u.2.2.1 u.2.2.2.1 u.2.2.2.2.1 u.2.2.2.2.2.1 u.2.2.2.2.2.2.1 u.2.2.2.2.2.2.2.1 mt mv sw hv tk tn sc ++ [((aO, .inl (ci 4, 1, .inr (.inl u.2.2.2.2.2.2.2.2.2.2))) : Nat × va_E)]) t) (va_A ((kv_kw ci ad kc kh ks fo kl kp dy mo n pa aE qp qm ql qv qc qe mt mv sw hv tk tn sc) ++ [((aO, .inl (ci 4, 1, .inr (.inl g))) : Nat × va_E)]) sz)) 7 51 (va_A ((kv_kw ci ad kc kh ks fo kl kp dy mo n pa aE qp qm ql qv qc qe mt mv sw hv tk tn sc) ++ [((aO, .inl (ci 4, 1, .inr (.inl g))) : Nat × va_E)]) sz) := by
  refine va_MetW (cc := cL_buy) (maxL := 7) (ret := (some .int)) (by decide) rfl ?_
  intro p en s m args below meth c s₁ B hml hv
  obtain ⟨hv0, ⟨⟨⟨hsz, hP, hK, hD0⟩, hT⟩, hT2⟩, hN⟩ := hv
  have hx := B.exec
  have hb := B.bytes
  have hr := B.returns
  have hts := atoms_spec (ws := wsL_buy) B.pre
  have hown : s.vm.findClass RL = some m.cls := findClass_of_methodNamed B.named
  have hlocks := B.notSynchronized
  subst hsz
  have hD := hD0.self (sz := s.heap.size)
  generalize hAe : va_A ((kv_kw ci ad kc kh ks fo kl kp dy mo n pa aE qp qm ql qv qc qe mt mv sw hv tk tn sc) ++ [((aO, .inl (ci 4, 1, .inr (.inl g))) : Nat × va_E)]) s.heap.size = A at hD hT hT2 ⊢
  have hA : ∀ q : Nat, s.heap.size ≤ q → A q := fun q h => by rw [← hAe]; exact Or.inr h
  have hS : va_S A s.heap s.heap [] := va_S.rf
  have htb : c.exceptionTable.toList = tableOf [(0, 14, 17, 13), (0, 14, 21, 15), (0, 14, 25, 20)] := vx_table (x := yL_buy) B (hts (.codeWith yL_buy cL_buy 7 (some .int) [(0, 14, 17, 13), (0, 14, 21, 15), (0, 14, 25, 20)]) (by decide +kernel))
  refine W.eq (show entryFrame m args 7 = _ from by rw [hv0, lg_entry_eq]) ?_
  have hl := lv_entry ([.ref (ad 0), .int p0, .int p1, .int p2, .int p3, .ref aO]) (n := 7) (Nat.le_of_ble_eq_true rfl)
  generalize (lg_sl ([.ref (ad 0), .int p0, .int p1, .int p2, .int p3, .ref aO]) ++ List.replicate (7 - (lg_sl ([.ref (ad 0), .int p0, .int p1, .int p2, .int p3, .ref aO])).length) Slot.unset).toArray = ls at hl ⊢
  have hl : lv_has ls 7 [(0, .ref (ad 0)), (1, .int p0), (2, .int p1), (3, .int p2), (4, .int p3), (5, .ref aO)] := hl
  generalize hRd : pf_X2_buy kl dy p0 p1 p2 p3 mo n qp qm ql qv qc qe = Rz at hRn hEx ⊢
  refine lv_aload hx hb dL_buy_0 (lv_at hl 5 rfl) ?_
  refine lv_iconst (v := 0) hx hb dL_buy_2 (by decide) ?_
  refine lv_aload_n hx hb dL_buy_3 rfl (lv_at hl 0 rfl) ?_
  refine lv_iload_n hx hb dL_buy_4 rfl (lv_at hl 1 rfl) ?_
  refine lv_iload_n hx hb dL_buy_5 rfl (lv_at hl 2 rfl) ?_
  refine lv_iload_n hx hb dL_buy_6 rfl (lv_at hl 3 rfl) ?_
  refine lv_iload hx hb dL_buy_7 (lv_at hl 4 rfl) ?_
  refine kv_xcalliF (vx_runV (As := [.int p0, .int p1, .int p2, .int p3]) (rest := [.int 0, .ref aO]) ⟨hx, hb, hml, hown, hts⟩ (c_X2_buy l hl9 D ci ad aS kc kh ks fo kl kp dy mo n pa aE qp qm ql qv qc qe mt mv sw hv tk tn sc p0 p1 p2 p3 hE (by rw [hRd]; exact hRn) s.heap.size) (cwV 4 hts gL_buy_X2_buy rfl rfl rfl (by decide +kernel) ⟨Nat.le_of_ble_eq_true rfl, Nat.le_of_ble_eq_true rfl⟩) (kv_preVY hK (kv_Pl hP) (kv_Dl hD) hT hT2 hS hA (r := (RX2, TX2, 9)) (q0 := 0) (k := 3) rfl rfl rfl) rfl rfl hl.1 rfl (lv_room (Nat.le_of_ble_eq_true rfl)) dL_buy_9 ⟨Nat.le_of_ble_eq_true rfl, Nat.le_of_ble_eq_true rfl⟩) hP hD hS hA (fun ce q9 u9 H locs hw hP hD hS h1 h2 h3 => ?_) (fun r u H locs hw hP hD hS => ?_)
  · rw [hRd] at hw
    rcases hEx _ hw with rfl | rfl | rfl
    · refine vx_catch (name := "java/lang/IndexOutOfBoundsException") hown ((tableOf [(0, 14, 17, 13), (0, 14, 21, 15), (0, 14, 25, 20)]).take 0) ((tableOf [(0, 14, 17, 13), (0, 14, 21, 15), (0, 14, 25, 20)]).getD 0 default) ((tableOf [(0, 14, 17, 13), (0, 14, 21, 15), (0, 14, 25, 20)]).drop 1) (by rw [htb]; rfl) (fun z hz => ?_) (by decide) (by decide) (hts (.classLink RL 13 "java/lang/IndexOutOfBoundsException") (by decide +kernel)) (va_Nw.use rfl (hT.2.2.2.1 1)) h1 h2 h3 ?_
      · exact absurd hz List.not_mem_nil
      · refine lv_astore (lv' := [(6, .ref q9), (0, .ref (ad 0)), (1, .int p0), (2, .int p1), (3, .int p2), (4, .int p3), (5, .ref aO)]) hx hb dL_buy_17 hl (by decide) rfl (fun ls hl => ?_)
        refine lv_iconst (v := 1) hx hb dL_buy_19 (by decide) ?_
        exact W.iret (v := 1) hx hb hr (fun t ht hW => ⟨⟨1, (mo, n, qp, qm, ql, qv, qc, qe, pa, aE, g), rfl, Or.inr (Or.inl ⟨hw, rfl, rfl, rfl, rfl, rfl, rfl, rfl, rfl, rfl, rfl, rfl, rfl⟩), ⟨by rw [ht]; exact hP, by rw [hAe]; exact hD⟩⟩, hS.F ht⟩) hS.2.2 dL_buy_20
    · refine vx_catch (name := "java/lang/IllegalArgumentException") hown ((tableOf [(0, 14, 17, 13), (0, 14, 21, 15), (0, 14, 25, 20)]).take 1) ((tableOf [(0, 14, 17, 13), (0, 14, 21, 15), (0, 14, 25, 20)]).getD 1 default) ((tableOf [(0, 14, 17, 13), (0, 14, 21, 15), (0, 14, 25, 20)]).drop 2) (by rw [htb]; rfl) (fun z hz => ?_) (by decide) (by decide) (hts (.classLink RL 15 "java/lang/IllegalArgumentException") (by decide +kernel)) (va_Nw.use rfl (hT.2.2.2.1 2)) h1 h2 h3 ?_
      · obtain rfl : z = (tableOf [(0, 14, 17, 13), (0, 14, 21, 15), (0, 14, 25, 20)]).getD 0 default := List.mem_singleton.mp hz
        exact Or.inr ⟨by decide, "java/lang/IndexOutOfBoundsException", hts (.classLink RL 13 "java/lang/IndexOutOfBoundsException") (by decide +kernel), hN 2 1 (by decide) (by decide) (by decide) (by decide) (by decide)⟩
      · refine lv_astore (lv' := [(6, .ref q9), (0, .ref (ad 0)), (1, .int p0), (2, .int p1), (3, .int p2), (4, .int p3), (5, .ref aO)]) hx hb dL_buy_21 hl (by decide) rfl (fun ls hl => ?_)
        refine lv_iconst (v := 2) hx hb dL_buy_23 (by decide) ?_
        exact W.iret (v := 2) hx hb hr (fun t ht hW => ⟨⟨2, (mo, n, qp, qm, ql, qv, qc, qe, pa, aE, g), rfl, Or.inr (Or.inr (Or.inl ⟨hw, rfl, rfl, rfl, rfl, rfl, rfl, rfl, rfl, rfl, rfl, rfl, rfl⟩)), ⟨by rw [ht]; exact hP, by rw [hAe]; exact hD⟩⟩, hS.F ht⟩) hS.2.2 dL_buy_24
    · refine vx_catch (name := "java/lang/IllegalStateException") hown ((tableOf [(0, 14, 17, 13), (0, 14, 21, 15), (0, 14, 25, 20)]).take 2) ((tableOf [(0, 14, 17, 13), (0, 14, 21, 15), (0, 14, 25, 20)]).getD 2 default) ((tableOf [(0, 14, 17, 13), (0, 14, 21, 15), (0, 14, 25, 20)]).drop 3) (by rw [htb]; rfl) (fun z hz => ?_) (by decide) (by decide) (hts (.classLink RL 20 "java/lang/IllegalStateException") (by decide +kernel)) (va_Nw.use rfl (hT.2.2.2.1 3)) h1 h2 h3 ?_
      · rcases List.mem_cons.mp hz with rfl | hz
        · exact Or.inr ⟨by decide, "java/lang/IndexOutOfBoundsException", hts (.classLink RL 13 "java/lang/IndexOutOfBoundsException") (by decide +kernel), hN 3 1 (by decide) (by decide) (by decide) (by decide) (by decide)⟩
        · obtain rfl : z = (tableOf [(0, 14, 17, 13), (0, 14, 21, 15), (0, 14, 25, 20)]).getD 1 default := List.mem_singleton.mp hz
          exact Or.inr ⟨by decide, "java/lang/IllegalArgumentException", hts (.classLink RL 15 "java/lang/IllegalArgumentException") (by decide +kernel), hN 3 2 (by decide) (by decide) (by decide) (by decide) (by decide)⟩
      · refine lv_astore (lv' := [(6, .ref q9), (0, .ref (ad 0)), (1, .int p0), (2, .int p1), (3, .int p2), (4, .int p3), (5, .ref aO)]) hx hb dL_buy_25 hl (by decide) rfl (fun ls hl => ?_)
        refine lv_iconst (v := 3) hx hb dL_buy_27 (by decide) ?_
        exact W.iret (v := 3) hx hb hr (fun t ht hW => ⟨⟨3, (mo, n, qp, qm, ql, qv, qc, qe, pa, aE, g), rfl, Or.inr (Or.inr (Or.inr (⟨hw, rfl, rfl, rfl, rfl, rfl, rfl, rfl, rfl, rfl, rfl, rfl, rfl⟩))), ⟨by rw [ht]; exact hP, by rw [hAe]; exact hD⟩⟩, hS.F ht⟩) hS.2.2 dL_buy_28
  · rw [hRd] at hw
    obtain ⟨o0, o1, o2, o3, o4, o5, o6, o7, o8, o9⟩ := u
    have hP : va_P D vwCl ((kv_kw ci ad kc kh ks fo kl kp dy o0 o1 o8 o9 o2 o3 o4 o5 o6 o7 mt mv sw hv tk tn sc) ++ [((aO, .inl (ci 4, 1, .inr (.inl g))) : Nat × va_E)]) H := hP
    have hD : va_D A ((kv_kw ci ad kc kh ks fo kl kp dy o0 o1 o8 o9 o2 o3 o4 o5 o6 o7 mt mv sw hv tk tn sc) ++ [((aO, .inl (ci 4, 1, .inr (.inl g))) : Nat × va_E)]) := hD
    refine lv_i2l (v := r.toInt64) hx hb dL_buy_12 rfl ?_
    refine va_last hx hb hK hP hD hS (kv_kw ci ad kc kh ks fo kl kp dy o0 o1 o8 o9 o2 o3 o4 o5 o6 o7 mt mv sw hv tk tn sc).length 4 kv_last rfl (by unfold vp_in; decide) dL_buy_13 (fun H locs hP hD hS => ?_)
    rw [kv_last_set] at hP hD
    refine lv_goto (tgt := 29) hx hb dL_buy_14 (by decide) ?_
    refine lv_iconst (v := 0) hx hb dL_buy_29 (by decide) ?_
    exact W.iret (v := 0) hx hb hr (fun t ht hW => ⟨⟨0, (o0, o1, o2, o3, o4, o5, o6, o7, o8, o9, (vp_updL g 0 r.toInt64)), rfl, Or.inl ⟨r, hw, rfl, rfl⟩, ⟨by rw [ht]; exact hP, by rw [hAe]; exact hD⟩⟩, hS.F ht⟩) hS.2.2 dL_buy_30

set_option maxHeartbeats 4000000 in
set_option maxRecDepth 100000 in
theorem c_L_upgrade (l : Launch) (hl9 : l.stackTraces = false) (D : va_G) (ci ad : Nat → Nat) (aS : Nat) (kc : Nat → Int32) (kh : Nat → Int32) (ks : Nat → Int32) (fo : Nat → Nat → Int32) (kl : Nat → Int32) (kp : Nat → Int32) (dy : Int32) (mo : Int32) (n : Nat) (pa : Nat → Nat) (aE : Nat) (qp : Nat → Int32) (qm : Nat → Int32) (ql : Nat → Int32) (qv : Nat → Int32) (qc : Nat → Int32) (qe : Nat → Int32) (mt : Nat → Int32) (mv : Nat → Int32) (sw : Nat → Int32) (hv : Int32) (tk : Nat → Int32) (tn : Nat → Int32) (sc : Nat → Int32) (aO : Nat) (g : Nat → Int64) (p0 : Int32) (p1 : Int32) (hE : n = 0 → aE = aS) (hRn : pf_X2_upgrade kl p0 p1 mo n qp qm ql qv qc qe ≠ none) (hEx : ∀ c9, pf_X2_upgrade kl p0 p1 mo n qp qm ql qv qc qe = some (.inr c9) → c9 = 1 ∨ c9 = 2 ∨ c9 = 3) (sz : Nat) : Met l yL_upgrade wsL_upgrade ({ frames := 9, cells := 6, slots := 45, locals := 238 } : Room) (va_Pc [.ref (ad 0), .int p0, .int p1, .ref aO] (kv_preW D ci aS ((kv_kw ci ad kc kh ks fo kl kp dy mo n pa aE qp qm ql qv qc qe mt mv sw hv tk tn sc) ++ [((aO, .inl (ci 4, 1, .inr (.inl g))) : Nat × va_E)]) sz)) (va_Qi (fun (r : Int32) (u : Int32 × Nat × (Nat → Int32) × (Nat → Int32) × (Nat → Int32) × (Nat → Int32) × (Nat → Int32) × (Nat → Int32) × (Nat → Nat) × Nat × (Nat → Int64)) => (∃ v : Int32, pf_X2_upgrade kl p0 p1 mo n qp qm ql qv qc qe = some (.inl (v, u.1, u.2.1, u.2.2.1, u.2.2.2.1, u.2.2.2.2.1, u.2.2.2.2.2.1, u.2.2.2.2.2.2.1, u.2.2.2.2.2.2.2.1)) ∧ r = 0 ∧ u.2.2.2.2.2.2.2.2.2.2 = vp_updL g 0 v.toInt64) ∨ (pf_X2_upgrade kl p0 p1 mo n qp qm ql qv qc qe = some (.inr 1) ∧ r = 1 ∧ u.1 = mo ∧ u.2.1 = n ∧ u.2.2.1 = qp ∧ u.2.2.2.1 = qm ∧ u.2.2.2.2.1 = ql ∧ u.2.2.2.2.2.1 = qv ∧ u.2.2.2.2.2.2.1 = qc ∧ u.2.2.2.2.2.2.2.1 = qe ∧ u.2.2.2.2.2.2.2.2.1 = pa ∧ u.2.2.2.2.2.2.2.2.2.1 = aE ∧ u.2.2.2.2.2.2.2.2.2.2 = g) ∨ (pf_X2_upgrade kl p0 p1 mo n qp qm ql qv qc qe = some (.inr 2) ∧ r = 2 ∧ u.1 = mo ∧ u.2.1 = n ∧ u.2.2.1 = qp ∧ u.2.2.2.1 = qm ∧ u.2.2.2.2.1 = ql ∧ u.2.2.2.2.2.1 = qv ∧ u.2.2.2.2.2.2.1 = qc ∧ u.2.2.2.2.2.2.2.1 = qe ∧ u.2.2.2.2.2.2.2.2.1 = pa ∧ u.2.2.2.2.2.2.2.2.2.1 = aE ∧ u.2.2.2.2.2.2.2.2.2.2 = g) ∨ (pf_X2_upgrade kl p0 p1 mo n qp qm ql qv qc qe = some (.inr 3) ∧ r = 3 ∧ u.1 = mo ∧ u.2.1 = n ∧ u.2.2.1 = qp ∧ u.2.2.2.1 = qm ∧ u.2.2.2.2.1 = ql ∧ u.2.2.2.2.2.1 = qv ∧ u.2.2.2.2.2.2.1 = qc ∧ u.2.2.2.2.2.2.2.1 = qe ∧ u.2.2.2.2.2.2.2.2.1 = pa ∧ u.2.2.2.2.2.2.2.2.2.1 = aE ∧ u.2.2.2.2.2.2.2.2.2.2 = g)) (fun u t => kv_post D ((kv_kw ci ad kc kh ks fo kl kp dy mo n pa aE qp qm ql qv qc qe mt mv sw hv tk tn sc) ++ [((aO, .inl (ci 4, 1, .inr (.inl g))) : Nat × va_E)]) sz (kv_kw ci ad kc kh ks fo kl kp dy u.1 u.2.1 u.2.2.2.2.2.2.2.2.1 u.2.2.2.2.2.2.2.2.2.1 u.2.2.1 u.2.2.2.1 u.2.2.2.2.1 u.2.2.2.2.2.1 u.2.2.2.2.2.2.1 u.2.2.2.2.2.2.2.1 mt mv sw hv tk tn sc ++ [((aO, .inl (ci 4, 1, .inr (.inl u.2.2.2.2.2.2.2.2.2.2))) : Nat × va_E)]) t) (va_A ((kv_kw ci ad kc kh ks fo kl kp dy mo n pa aE qp qm ql qv qc qe mt mv sw hv tk tn sc) ++ [((aO, .inl (ci 4, 1, .inr (.inl g))) : Nat × va_E)]) sz)) 6 45 (va_A ((kv_kw ci ad kc kh ks fo kl kp dy mo n pa aE qp qm ql qv qc qe mt mv sw hv tk tn sc) ++ [((aO, .inl (ci 4, 1, .inr (.inl g))) : Nat × va_E)]) sz) := by
  refine va_MetW (cc := cL_upgrade) (maxL := 5) (ret := (some .int)) (by decide) rfl ?_
  intro p en s m args below meth c s₁ B hml hv
  obtain ⟨hv0, ⟨⟨⟨hsz, hP, hK, hD0⟩, hT⟩, hT2⟩, hN⟩ := hv
  have hx := B.exec
  have hb := B.bytes
  have hr := B.returns
  have hts := atoms_spec (ws := wsL_upgrade) B.pre
  have hown : s.vm.findClass RL = some m.cls := findClass_of_methodNamed B.named
  have hlocks := B.notSynchronized
  subst hsz
  have hD := hD0.self (sz := s.heap.size)
  generalize hAe : va_A ((kv_kw ci ad kc kh ks fo kl kp dy mo n pa aE qp qm ql qv qc qe mt mv sw hv tk tn sc) ++ [((aO, .inl (ci 4, 1, .inr (.inl g))) : Nat × va_E)]) s.heap.size = A at hD hT hT2 ⊢
  have hA : ∀ q : Nat, s.heap.size ≤ q → A q := fun q h => by rw [← hAe]; exact Or.inr h
  have hS : va_S A s.heap s.heap [] := va_S.rf
  have htb : c.exceptionTable.toList = tableOf [(0, 10, 13, 13), (0, 10, 17, 15), (0, 10, 21, 20)] := vx_table (x := yL_upgrade) B (hts (.codeWith yL_upgrade cL_upgrade 5 (some .int) [(0, 10, 13, 13), (0, 10, 17, 15), (0, 10, 21, 20)]) (by decide +kernel))
  refine W.eq (show entryFrame m args 5 = _ from by rw [hv0, lg_entry_eq]) ?_
  have hl := lv_entry ([.ref (ad 0), .int p0, .int p1, .ref aO]) (n := 5) (Nat.le_of_ble_eq_true rfl)
  generalize (lg_sl ([.ref (ad 0), .int p0, .int p1, .ref aO]) ++ List.replicate (5 - (lg_sl ([.ref (ad 0), .int p0, .int p1, .ref aO])).length) Slot.unset).toArray = ls at hl ⊢
  have hl : lv_has ls 5 [(0, .ref (ad 0)), (1, .int p0), (2, .int p1), (3, .ref aO)] := hl
  generalize hRd : pf_X2_upgrade kl p0 p1 mo n qp qm ql qv qc qe = Rz at hRn hEx ⊢
  refine lv_aload_n hx hb dL_upgrade_0 rfl (lv_at hl 3 rfl) ?_
  refine lv_iconst (v := 0) hx hb dL_upgrade_1 (by decide) ?_
  refine lv_aload_n hx hb dL_upgrade_2 rfl (lv_at hl 0 rfl) ?_
  refine lv_iload_n hx hb dL_upgrade_3 rfl (lv_at hl 1 rfl) ?_
  refine lv_iload_n hx hb dL_upgrade_4 rfl (lv_at hl 2 rfl) ?_
  refine kv_xcalliF (vx_runV (As := [.int p0, .int p1]) (rest := [.int 0, .ref aO]) ⟨hx, hb, hml, hown, hts⟩ (c_X2_upgrade l hl9 D ci ad aS kc kh ks fo kl kp dy mo n pa aE qp qm ql qv qc qe mt mv sw hv tk tn sc p0 p1 hE (by rw [hRd]; exact hRn) s.heap.size) (cwV 2 hts gL_upgrade_X2_upgrade rfl rfl rfl (by decide +kernel) ⟨Nat.le_of_ble_eq_true rfl, Nat.le_of_ble_eq_true rfl⟩) (kv_preVY hK (kv_Pl hP) (kv_Dl hD) hT hT2 hS hA (r := (RX2, TX2, 9)) (q0 := 0) (k := 3) rfl rfl rfl) rfl rfl hl.1 rfl (lv_room (Nat.le_of_ble_eq_true rfl)) dL_upgrade_5 ⟨Nat.le_of_ble_eq_true rfl, Nat.le_of_ble_eq_true rfl⟩) hP hD hS hA (fun ce q9 u9 H locs hw hP hD hS h1 h2 h3 => ?_) (fun r u H locs hw hP hD hS => ?_)
  · rw [hRd] at hw
    rcases hEx _ hw with rfl | rfl | rfl
    · refine vx_catch (name := "java/lang/IndexOutOfBoundsException") hown ((tableOf [(0, 10, 13, 13), (0, 10, 17, 15), (0, 10, 21, 20)]).take 0) ((tableOf [(0, 10, 13, 13), (0, 10, 17, 15), (0, 10, 21, 20)]).getD 0 default) ((tableOf [(0, 10, 13, 13), (0, 10, 17, 15), (0, 10, 21, 20)]).drop 1) (by rw [htb]; rfl) (fun z hz => ?_) (by decide) (by decide) (hts (.classLink RL 13 "java/lang/IndexOutOfBoundsException") (by decide +kernel)) (va_Nw.use rfl (hT.2.2.2.1 1)) h1 h2 h3 ?_
      · exact absurd hz List.not_mem_nil
      · refine lv_astore (lv' := [(4, .ref q9), (0, .ref (ad 0)), (1, .int p0), (2, .int p1), (3, .ref aO)]) hx hb dL_upgrade_13 hl (by decide) rfl (fun ls hl => ?_)
        refine lv_iconst (v := 1) hx hb dL_upgrade_15 (by decide) ?_
        exact W.iret (v := 1) hx hb hr (fun t ht hW => ⟨⟨1, (mo, n, qp, qm, ql, qv, qc, qe, pa, aE, g), rfl, Or.inr (Or.inl ⟨hw, rfl, rfl, rfl, rfl, rfl, rfl, rfl, rfl, rfl, rfl, rfl, rfl⟩), ⟨by rw [ht]; exact hP, by rw [hAe]; exact hD⟩⟩, hS.F ht⟩) hS.2.2 dL_upgrade_16
    · refine vx_catch (name := "java/lang/IllegalArgumentException") hown ((tableOf [(0, 10, 13, 13), (0, 10, 17, 15), (0, 10, 21, 20)]).take 1) ((tableOf [(0, 10, 13, 13), (0, 10, 17, 15), (0, 10, 21, 20)]).getD 1 default) ((tableOf [(0, 10, 13, 13), (0, 10, 17, 15), (0, 10, 21, 20)]).drop 2) (by rw [htb]; rfl) (fun z hz => ?_) (by decide) (by decide) (hts (.classLink RL 15 "java/lang/IllegalArgumentException") (by decide +kernel)) (va_Nw.use rfl (hT.2.2.2.1 2)) h1 h2 h3 ?_
      · obtain rfl : z = (tableOf [(0, 10, 13, 13), (0, 10, 17, 15), (0, 10, 21, 20)]).getD 0 default := List.mem_singleton.mp hz
        exact Or.inr ⟨by decide, "java/lang/IndexOutOfBoundsException", hts (.classLink RL 13 "java/lang/IndexOutOfBoundsException") (by decide +kernel), hN 2 1 (by decide) (by decide) (by decide) (by decide) (by decide)⟩
      · refine lv_astore (lv' := [(4, .ref q9), (0, .ref (ad 0)), (1, .int p0), (2, .int p1), (3, .ref aO)]) hx hb dL_upgrade_17 hl (by decide) rfl (fun ls hl => ?_)
        refine lv_iconst (v := 2) hx hb dL_upgrade_19 (by decide) ?_
        exact W.iret (v := 2) hx hb hr (fun t ht hW => ⟨⟨2, (mo, n, qp, qm, ql, qv, qc, qe, pa, aE, g), rfl, Or.inr (Or.inr (Or.inl ⟨hw, rfl, rfl, rfl, rfl, rfl, rfl, rfl, rfl, rfl, rfl, rfl, rfl⟩)), ⟨by rw [ht]; exact hP, by rw [hAe]; exact hD⟩⟩, hS.F ht⟩) hS.2.2 dL_upgrade_20
    · refine vx_catch (name := "java/lang/IllegalStateException") hown ((tableOf [(0, 10, 13, 13), (0, 10, 17, 15), (0, 10, 21, 20)]).take 2) ((tableOf [(0, 10, 13, 13), (0, 10, 17, 15), (0, 10, 21, 20)]).getD 2 default) ((tableOf [(0, 10, 13, 13), (0, 10, 17, 15), (0, 10, 21, 20)]).drop 3) (by rw [htb]; rfl) (fun z hz => ?_) (by decide) (by decide) (hts (.classLink RL 20 "java/lang/IllegalStateException") (by decide +kernel)) (va_Nw.use rfl (hT.2.2.2.1 3)) h1 h2 h3 ?_
      · rcases List.mem_cons.mp hz with rfl | hz
        · exact Or.inr ⟨by decide, "java/lang/IndexOutOfBoundsException", hts (.classLink RL 13 "java/lang/IndexOutOfBoundsException") (by decide +kernel), hN 3 1 (by decide) (by decide) (by decide) (by decide) (by decide)⟩
        · obtain rfl : z = (tableOf [(0, 10, 13, 13), (0, 10, 17, 15), (0, 10, 21, 20)]).getD 1 default := List.mem_singleton.mp hz
          exact Or.inr ⟨by decide, "java/lang/IllegalArgumentException", hts (.classLink RL 15 "java/lang/IllegalArgumentException") (by decide +kernel), hN 3 2 (by decide) (by decide) (by decide) (by decide) (by decide)⟩
      · refine lv_astore (lv' := [(4, .ref q9), (0, .ref (ad 0)), (1, .int p0), (2, .int p1), (3, .ref aO)]) hx hb dL_upgrade_21 hl (by decide) rfl (fun ls hl => ?_)
        refine lv_iconst (v := 3) hx hb dL_upgrade_23 (by decide) ?_
        exact W.iret (v := 3) hx hb hr (fun t ht hW => ⟨⟨3, (mo, n, qp, qm, ql, qv, qc, qe, pa, aE, g), rfl, Or.inr (Or.inr (Or.inr (⟨hw, rfl, rfl, rfl, rfl, rfl, rfl, rfl, rfl, rfl, rfl, rfl, rfl⟩))), ⟨by rw [ht]; exact hP, by rw [hAe]; exact hD⟩⟩, hS.F ht⟩) hS.2.2 dL_upgrade_24
  · rw [hRd] at hw
    obtain ⟨o0, o1, o2, o3, o4, o5, o6, o7, o8, o9⟩ := u
    have hP : va_P D vwCl ((kv_kw ci ad kc kh ks fo kl kp dy o0 o1 o8 o9 o2 o3 o4 o5 o6 o7 mt mv sw hv tk tn sc) ++ [((aO, .inl (ci 4, 1, .inr (.inl g))) : Nat × va_E)]) H := hP
    have hD : va_D A ((kv_kw ci ad kc kh ks fo kl kp dy o0 o1 o8 o9 o2 o3 o4 o5 o6 o7 mt mv sw hv tk tn sc) ++ [((aO, .inl (ci 4, 1, .inr (.inl g))) : Nat × va_E)]) := hD
    refine lv_i2l (v := r.toInt64) hx hb dL_upgrade_8 rfl ?_
    refine va_last hx hb hK hP hD hS (kv_kw ci ad kc kh ks fo kl kp dy o0 o1 o8 o9 o2 o3 o4 o5 o6 o7 mt mv sw hv tk tn sc).length 4 kv_last rfl (by unfold vp_in; decide) dL_upgrade_9 (fun H locs hP hD hS => ?_)
    rw [kv_last_set] at hP hD
    refine lv_goto (tgt := 25) hx hb dL_upgrade_10 (by decide) ?_
    refine lv_iconst (v := 0) hx hb dL_upgrade_25 (by decide) ?_
    exact W.iret (v := 0) hx hb hr (fun t ht hW => ⟨⟨0, (o0, o1, o2, o3, o4, o5, o6, o7, o8, o9, (vp_updL g 0 r.toInt64)), rfl, Or.inl ⟨r, hw, rfl, rfl⟩, ⟨by rw [ht]; exact hP, by rw [hAe]; exact hD⟩⟩, hS.F ht⟩) hS.2.2 dL_upgrade_26

set_option maxHeartbeats 4000000 in
set_option maxRecDepth 100000 in
theorem c_L_lend (l : Launch) (hl9 : l.stackTraces = false) (D : va_G) (ci ad : Nat → Nat) (aS : Nat) (kc : Nat → Int32) (kh : Nat → Int32) (ks : Nat → Int32) (fo : Nat → Nat → Int32) (kl : Nat → Int32) (kp : Nat → Int32) (dy : Int32) (mo : Int32) (n : Nat) (pa : Nat → Nat) (aE : Nat) (qp : Nat → Int32) (qm : Nat → Int32) (ql : Nat → Int32) (qv : Nat → Int32) (qc : Nat → Int32) (qe : Nat → Int32) (mt : Nat → Int32) (mv : Nat → Int32) (sw : Nat → Int32) (hv : Int32) (tk : Nat → Int32) (tn : Nat → Int32) (sc : Nat → Int32) (aO : Nat) (g : Nat → Int64) (p0 : Int32) (p1 : Int32) (hRn : pf_X2_lend n p0 p1 qc qe ≠ none) (hEx : ∀ c9, pf_X2_lend n p0 p1 qc qe = some (.inr c9) → c9 = 1 ∨ c9 = 2 ∨ c9 = 3) (sz : Nat) : Met l yL_lend wsL_lend ({ frames := 8, cells := 4, slots := 24, locals := 127 } : Room) (va_Pc [.ref (ad 0), .int p0, .int p1, .ref aO] (kv_preW D ci aS ((kv_kw ci ad kc kh ks fo kl kp dy mo n pa aE qp qm ql qv qc qe mt mv sw hv tk tn sc) ++ [((aO, .inl (ci 4, 1, .inr (.inl g))) : Nat × va_E)]) sz)) (va_Qi (fun (r : Int32) (u : (Nat → Int32) × (Nat → Int32) × (Nat → Int64)) => (∃ v : Int32, pf_X2_lend n p0 p1 qc qe = some (.inl (v, u.1, u.2.1)) ∧ r = 0 ∧ u.2.2 = vp_updL g 0 v.toInt64) ∨ (pf_X2_lend n p0 p1 qc qe = some (.inr 1) ∧ r = 1 ∧ u.1 = qc ∧ u.2.1 = qe ∧ u.2.2 = g) ∨ (pf_X2_lend n p0 p1 qc qe = some (.inr 2) ∧ r = 2 ∧ u.1 = qc ∧ u.2.1 = qe ∧ u.2.2 = g) ∨ (pf_X2_lend n p0 p1 qc qe = some (.inr 3) ∧ r = 3 ∧ u.1 = qc ∧ u.2.1 = qe ∧ u.2.2 = g)) (fun u t => kv_post D ((kv_kw ci ad kc kh ks fo kl kp dy mo n pa aE qp qm ql qv qc qe mt mv sw hv tk tn sc) ++ [((aO, .inl (ci 4, 1, .inr (.inl g))) : Nat × va_E)]) sz (kv_kw ci ad kc kh ks fo kl kp dy mo n pa aE qp qm ql qv u.1 u.2.1 mt mv sw hv tk tn sc ++ [((aO, .inl (ci 4, 1, .inr (.inl u.2.2))) : Nat × va_E)]) t) (va_A ((kv_kw ci ad kc kh ks fo kl kp dy mo n pa aE qp qm ql qv qc qe mt mv sw hv tk tn sc) ++ [((aO, .inl (ci 4, 1, .inr (.inl g))) : Nat × va_E)]) sz)) 4 24 (va_A ((kv_kw ci ad kc kh ks fo kl kp dy mo n pa aE qp qm ql qv qc qe mt mv sw hv tk tn sc) ++ [((aO, .inl (ci 4, 1, .inr (.inl g))) : Nat × va_E)]) sz) := by
  refine va_MetW (cc := cL_lend) (maxL := 5) (ret := (some .int)) (by decide) rfl ?_
  intro p en s m args below meth c s₁ B hml hv
  obtain ⟨hv0, ⟨⟨⟨hsz, hP, hK, hD0⟩, hT⟩, hT2⟩, hN⟩ := hv
  have hx := B.exec
  have hb := B.bytes
  have hr := B.returns
  have hts := atoms_spec (ws := wsL_lend) B.pre
  have hown : s.vm.findClass RL = some m.cls := findClass_of_methodNamed B.named
  have hlocks := B.notSynchronized
  subst hsz
  have hD := hD0.self (sz := s.heap.size)
  generalize hAe : va_A ((kv_kw ci ad kc kh ks fo kl kp dy mo n pa aE qp qm ql qv qc qe mt mv sw hv tk tn sc) ++ [((aO, .inl (ci 4, 1, .inr (.inl g))) : Nat × va_E)]) s.heap.size = A at hD hT hT2 ⊢
  have hA : ∀ q : Nat, s.heap.size ≤ q → A q := fun q h => by rw [← hAe]; exact Or.inr h
  have hS : va_S A s.heap s.heap [] := va_S.rf
  have htb : c.exceptionTable.toList = tableOf [(0, 10, 13, 13), (0, 10, 17, 15), (0, 10, 21, 20)] := vx_table (x := yL_lend) B (hts (.codeWith yL_lend cL_lend 5 (some .int) [(0, 10, 13, 13), (0, 10, 17, 15), (0, 10, 21, 20)]) (by decide +kernel))
  refine W.eq (show entryFrame m args 5 = _ from by rw [hv0, lg_entry_eq]) ?_
  have hl := lv_entry ([.ref (ad 0), .int p0, .int p1, .ref aO]) (n := 5) (Nat.le_of_ble_eq_true rfl)
  generalize (lg_sl ([.ref (ad 0), .int p0, .int p1, .ref aO]) ++ List.replicate (5 - (lg_sl ([.ref (ad 0), .int p0, .int p1, .ref aO])).length) Slot.unset).toArray = ls at hl ⊢
  have hl : lv_has ls 5 [(0, .ref (ad 0)), (1, .int p0), (2, .int p1), (3, .ref aO)] := hl
  generalize hRd : pf_X2_lend n p0 p1 qc qe = Rz at hRn hEx ⊢
  refine lv_aload_n hx hb dL_lend_0 rfl (lv_at hl 3 rfl) ?_
  refine lv_iconst (v := 0) hx hb dL_lend_1 (by decide) ?_
  refine lv_aload_n hx hb dL_lend_2 rfl (lv_at hl 0 rfl) ?_
  refine lv_iload_n hx hb dL_lend_3 rfl (lv_at hl 1 rfl) ?_
  refine lv_iload_n hx hb dL_lend_4 rfl (lv_at hl 2 rfl) ?_
  refine kv_xcalliF (vx_runV (As := [.int p0, .int p1]) (rest := [.int 0, .ref aO]) ⟨hx, hb, hml, hown, hts⟩ (c_X2_lend l hl9 D ci ad kc kh ks fo kl kp dy mo n pa aE qp qm ql qv qc qe mt mv sw hv tk tn sc p0 p1 (by rw [hRd]; exact hRn) s.heap.size) (cwV 2 hts gL_lend_X2_lend rfl rfl rfl (by decide +kernel) ⟨Nat.le_of_ble_eq_true rfl, Nat.le_of_ble_eq_true rfl⟩) (kv_preVX hK (kv_Pl hP) (kv_Dl hD) hT hS hA (r := (RX2, TX2, 9)) (q0 := 0) (k := 3) rfl rfl rfl) rfl rfl hl.1 rfl (lv_room (Nat.le_of_ble_eq_true rfl)) dL_lend_5 ⟨Nat.le_of_ble_eq_true rfl, Nat.le_of_ble_eq_true rfl⟩) hP hD hS hA (fun ce q9 u9 H locs hw hP hD hS h1 h2 h3 => ?_) (fun r u H locs hw hP hD hS => ?_)
  · rw [hRd] at hw
    rcases hEx _ hw with rfl | rfl | rfl
    · refine vx_catch (name := "java/lang/IndexOutOfBoundsException") hown ((tableOf [(0, 10, 13, 13), (0, 10, 17, 15), (0, 10, 21, 20)]).take 0) ((tableOf [(0, 10, 13, 13), (0, 10, 17, 15), (0, 10, 21, 20)]).getD 0 default) ((tableOf [(0, 10, 13, 13), (0, 10, 17, 15), (0, 10, 21, 20)]).drop 1) (by rw [htb]; rfl) (fun z hz => ?_) (by decide) (by decide) (hts (.classLink RL 13 "java/lang/IndexOutOfBoundsException") (by decide +kernel)) (va_Nw.use rfl (hT.2.2.2.1 1)) h1 h2 h3 ?_
      · exact absurd hz List.not_mem_nil
      · refine lv_astore (lv' := [(4, .ref q9), (0, .ref (ad 0)), (1, .int p0), (2, .int p1), (3, .ref aO)]) hx hb dL_lend_13 hl (by decide) rfl (fun ls hl => ?_)
        refine lv_iconst (v := 1) hx hb dL_lend_15 (by decide) ?_
        exact W.iret (v := 1) hx hb hr (fun t ht hW => ⟨⟨1, (qc, qe, g), rfl, Or.inr (Or.inl ⟨hw, rfl, rfl, rfl, rfl⟩), ⟨by rw [ht]; exact hP, by rw [hAe]; exact hD⟩⟩, hS.F ht⟩) hS.2.2 dL_lend_16
    · refine vx_catch (name := "java/lang/IllegalArgumentException") hown ((tableOf [(0, 10, 13, 13), (0, 10, 17, 15), (0, 10, 21, 20)]).take 1) ((tableOf [(0, 10, 13, 13), (0, 10, 17, 15), (0, 10, 21, 20)]).getD 1 default) ((tableOf [(0, 10, 13, 13), (0, 10, 17, 15), (0, 10, 21, 20)]).drop 2) (by rw [htb]; rfl) (fun z hz => ?_) (by decide) (by decide) (hts (.classLink RL 15 "java/lang/IllegalArgumentException") (by decide +kernel)) (va_Nw.use rfl (hT.2.2.2.1 2)) h1 h2 h3 ?_
      · obtain rfl : z = (tableOf [(0, 10, 13, 13), (0, 10, 17, 15), (0, 10, 21, 20)]).getD 0 default := List.mem_singleton.mp hz
        exact Or.inr ⟨by decide, "java/lang/IndexOutOfBoundsException", hts (.classLink RL 13 "java/lang/IndexOutOfBoundsException") (by decide +kernel), hN 2 1 (by decide) (by decide) (by decide) (by decide) (by decide)⟩
      · refine lv_astore (lv' := [(4, .ref q9), (0, .ref (ad 0)), (1, .int p0), (2, .int p1), (3, .ref aO)]) hx hb dL_lend_17 hl (by decide) rfl (fun ls hl => ?_)
        refine lv_iconst (v := 2) hx hb dL_lend_19 (by decide) ?_
        exact W.iret (v := 2) hx hb hr (fun t ht hW => ⟨⟨2, (qc, qe, g), rfl, Or.inr (Or.inr (Or.inl ⟨hw, rfl, rfl, rfl, rfl⟩)), ⟨by rw [ht]; exact hP, by rw [hAe]; exact hD⟩⟩, hS.F ht⟩) hS.2.2 dL_lend_20
    · refine vx_catch (name := "java/lang/IllegalStateException") hown ((tableOf [(0, 10, 13, 13), (0, 10, 17, 15), (0, 10, 21, 20)]).take 2) ((tableOf [(0, 10, 13, 13), (0, 10, 17, 15), (0, 10, 21, 20)]).getD 2 default) ((tableOf [(0, 10, 13, 13), (0, 10, 17, 15), (0, 10, 21, 20)]).drop 3) (by rw [htb]; rfl) (fun z hz => ?_) (by decide) (by decide) (hts (.classLink RL 20 "java/lang/IllegalStateException") (by decide +kernel)) (va_Nw.use rfl (hT.2.2.2.1 3)) h1 h2 h3 ?_
      · rcases List.mem_cons.mp hz with rfl | hz
        · exact Or.inr ⟨by decide, "java/lang/IndexOutOfBoundsException", hts (.classLink RL 13 "java/lang/IndexOutOfBoundsException") (by decide +kernel), hN 3 1 (by decide) (by decide) (by decide) (by decide) (by decide)⟩
        · obtain rfl : z = (tableOf [(0, 10, 13, 13), (0, 10, 17, 15), (0, 10, 21, 20)]).getD 1 default := List.mem_singleton.mp hz
          exact Or.inr ⟨by decide, "java/lang/IllegalArgumentException", hts (.classLink RL 15 "java/lang/IllegalArgumentException") (by decide +kernel), hN 3 2 (by decide) (by decide) (by decide) (by decide) (by decide)⟩
      · refine lv_astore (lv' := [(4, .ref q9), (0, .ref (ad 0)), (1, .int p0), (2, .int p1), (3, .ref aO)]) hx hb dL_lend_21 hl (by decide) rfl (fun ls hl => ?_)
        refine lv_iconst (v := 3) hx hb dL_lend_23 (by decide) ?_
        exact W.iret (v := 3) hx hb hr (fun t ht hW => ⟨⟨3, (qc, qe, g), rfl, Or.inr (Or.inr (Or.inr (⟨hw, rfl, rfl, rfl, rfl⟩))), ⟨by rw [ht]; exact hP, by rw [hAe]; exact hD⟩⟩, hS.F ht⟩) hS.2.2 dL_lend_24
  · rw [hRd] at hw
    obtain ⟨o0, o1⟩ := u
    have hP : va_P D vwCl ((kv_kw ci ad kc kh ks fo kl kp dy mo n pa aE qp qm ql qv o0 o1 mt mv sw hv tk tn sc) ++ [((aO, .inl (ci 4, 1, .inr (.inl g))) : Nat × va_E)]) H := hP
    have hD : va_D A ((kv_kw ci ad kc kh ks fo kl kp dy mo n pa aE qp qm ql qv o0 o1 mt mv sw hv tk tn sc) ++ [((aO, .inl (ci 4, 1, .inr (.inl g))) : Nat × va_E)]) := hD
    refine lv_i2l (v := r.toInt64) hx hb dL_lend_8 rfl ?_
    refine va_last hx hb hK hP hD hS (kv_kw ci ad kc kh ks fo kl kp dy mo n pa aE qp qm ql qv o0 o1 mt mv sw hv tk tn sc).length 4 kv_last rfl (by unfold vp_in; decide) dL_lend_9 (fun H locs hP hD hS => ?_)
    rw [kv_last_set] at hP hD
    refine lv_goto (tgt := 25) hx hb dL_lend_10 (by decide) ?_
    refine lv_iconst (v := 0) hx hb dL_lend_25 (by decide) ?_
    exact W.iret (v := 0) hx hb hr (fun t ht hW => ⟨⟨0, (o0, o1, (vp_updL g 0 r.toInt64)), rfl, Or.inl ⟨r, hw, rfl, rfl⟩, ⟨by rw [ht]; exact hP, by rw [hAe]; exact hD⟩⟩, hS.F ht⟩) hS.2.2 dL_lend_26

set_option maxHeartbeats 4000000 in
set_option maxRecDepth 100000 in
theorem c_L_pass (l : Launch) (hl9 : l.stackTraces = false) (D : va_G) (ci ad : Nat → Nat) (aS : Nat) (kc : Nat → Int32) (kh : Nat → Int32) (ks : Nat → Int32) (fo : Nat → Nat → Int32) (kl : Nat → Int32) (kp : Nat → Int32) (dy : Int32) (mo : Int32) (n : Nat) (pa : Nat → Nat) (aE : Nat) (qp : Nat → Int32) (qm : Nat → Int32) (ql : Nat → Int32) (qv : Nat → Int32) (qc : Nat → Int32) (qe : Nat → Int32) (mt : Nat → Int32) (mv : Nat → Int32) (sw : Nat → Int32) (hv : Int32) (tk : Nat → Int32) (tn : Nat → Int32) (sc : Nat → Int32) (aO : Nat) (g : Nat → Int64) (p0 : Int32) (hRn : pf_X2_pass p0 dy ≠ none) (hEx : ∀ c9, pf_X2_pass p0 dy = some (.inr c9) → c9 = 2) (sz : Nat) : Met l yL_pass wsL_pass ({ frames := 8, cells := 1, slots := 6, locals := 125 } : Room) (va_Pc [.ref (ad 0), .int p0, .ref aO] (kv_preW D ci aS ((kv_kw ci ad kc kh ks fo kl kp dy mo n pa aE qp qm ql qv qc qe mt mv sw hv tk tn sc) ++ [((aO, .inl (ci 4, 1, .inr (.inl g))) : Nat × va_E)]) sz)) (va_Qi (fun (r : Int32) (u : Int32 × (Nat → Int64)) => (∃ v : Int32, pf_X2_pass p0 dy = some (.inl (v, u.1)) ∧ r = 0 ∧ u.2 = vp_updL g 0 v.toInt64) ∨ (pf_X2_pass p0 dy = some (.inr 2) ∧ r = 1 ∧ u.1 = dy ∧ u.2 = g)) (fun u t => kv_post D ((kv_kw ci ad kc kh ks fo kl kp dy mo n pa aE qp qm ql qv qc qe mt mv sw hv tk tn sc) ++ [((aO, .inl (ci 4, 1, .inr (.inl g))) : Nat × va_E)]) sz (kv_kw ci ad kc kh ks fo kl kp u.1 mo n pa aE qp qm ql qv qc qe mt mv sw hv tk tn sc ++ [((aO, .inl (ci 4, 1, .inr (.inl u.2))) : Nat × va_E)]) t) (va_A ((kv_kw ci ad kc kh ks fo kl kp dy mo n pa aE qp qm ql qv qc qe mt mv sw hv tk tn sc) ++ [((aO, .inl (ci 4, 1, .inr (.inl g))) : Nat × va_E)]) sz)) 1 6 (va_A ((kv_kw ci ad kc kh ks fo kl kp dy mo n pa aE qp qm ql qv qc qe mt mv sw hv tk tn sc) ++ [((aO, .inl (ci 4, 1, .inr (.inl g))) : Nat × va_E)]) sz) := by
  refine va_MetW (cc := cL_pass) (maxL := 4) (ret := (some .int)) (by decide) rfl ?_
  intro p en s m args below meth c s₁ B hml hv
  obtain ⟨hv0, ⟨⟨⟨hsz, hP, hK, hD0⟩, hT⟩, hT2⟩, hN⟩ := hv
  have hx := B.exec
  have hb := B.bytes
  have hr := B.returns
  have hts := atoms_spec (ws := wsL_pass) B.pre
  have hown : s.vm.findClass RL = some m.cls := findClass_of_methodNamed B.named
  have hlocks := B.notSynchronized
  subst hsz
  have hD := hD0.self (sz := s.heap.size)
  generalize hAe : va_A ((kv_kw ci ad kc kh ks fo kl kp dy mo n pa aE qp qm ql qv qc qe mt mv sw hv tk tn sc) ++ [((aO, .inl (ci 4, 1, .inr (.inl g))) : Nat × va_E)]) s.heap.size = A at hD hT hT2 ⊢
  have hA : ∀ q : Nat, s.heap.size ≤ q → A q := fun q h => by rw [← hAe]; exact Or.inr h
  have hS : va_S A s.heap s.heap [] := va_S.rf
  have htb : c.exceptionTable.toList = tableOf [(0, 9, 12, 15)] := vx_table (x := yL_pass) B (hts (.codeWith yL_pass cL_pass 4 (some .int) [(0, 9, 12, 15)]) (by decide +kernel))
  refine W.eq (show entryFrame m args 4 = _ from by rw [hv0, lg_entry_eq]) ?_
  have hl := lv_entry ([.ref (ad 0), .int p0, .ref aO]) (n := 4) (Nat.le_of_ble_eq_true rfl)
  generalize (lg_sl ([.ref (ad 0), .int p0, .ref aO]) ++ List.replicate (4 - (lg_sl ([.ref (ad 0), .int p0, .ref aO])).length) Slot.unset).toArray = ls at hl ⊢
  have hl : lv_has ls 4 [(0, .ref (ad 0)), (1, .int p0), (2, .ref aO)] := hl
  generalize hRd : pf_X2_pass p0 dy = Rz at hRn hEx ⊢
  refine lv_aload_n hx hb dL_pass_0 rfl (lv_at hl 2 rfl) ?_
  refine lv_iconst (v := 0) hx hb dL_pass_1 (by decide) ?_
  refine lv_aload_n hx hb dL_pass_2 rfl (lv_at hl 0 rfl) ?_
  refine lv_iload_n hx hb dL_pass_3 rfl (lv_at hl 1 rfl) ?_
  refine kv_xcalliF (vx_runV (As := [.int p0]) (rest := [.int 0, .ref aO]) ⟨hx, hb, hml, hown, hts⟩ (c_X2_pass l hl9 D ci ad kc kh ks fo kl kp dy mo n pa aE qp qm ql qv qc qe mt mv sw hv tk tn sc p0 (by rw [hRd]; exact hRn) s.heap.size) (cwV 1 hts gL_pass_X2_pass rfl rfl rfl (by decide +kernel) ⟨Nat.le_of_ble_eq_true rfl, Nat.le_of_ble_eq_true rfl⟩) (kv_preVX hK (kv_Pl hP) (kv_Dl hD) hT hS hA (r := (RX2, TX2, 9)) (q0 := 0) (k := 3) rfl rfl rfl) rfl rfl hl.1 rfl (lv_room (Nat.le_of_ble_eq_true rfl)) dL_pass_4 ⟨Nat.le_of_ble_eq_true rfl, Nat.le_of_ble_eq_true rfl⟩) hP hD hS hA (fun ce q9 u9 H locs hw hP hD hS h1 h2 h3 => ?_) (fun r u H locs hw hP hD hS => ?_)
  · rw [hRd] at hw
    rcases hEx _ hw with rfl
    · refine vx_catch (name := "java/lang/IllegalArgumentException") hown ((tableOf [(0, 9, 12, 15)]).take 0) ((tableOf [(0, 9, 12, 15)]).getD 0 default) ((tableOf [(0, 9, 12, 15)]).drop 1) (by rw [htb]; rfl) (fun z hz => ?_) (by decide) (by decide) (hts (.classLink RL 15 "java/lang/IllegalArgumentException") (by decide +kernel)) (va_Nw.use rfl (hT.2.2.2.1 2)) h1 h2 h3 ?_
      · exact absurd hz List.not_mem_nil
      · refine lv_astore_n (lv' := [(3, .ref q9), (0, .ref (ad 0)), (1, .int p0), (2, .ref aO)]) hx hb dL_pass_12 rfl hl (by decide) rfl (fun ls hl => ?_)
        refine lv_iconst (v := 1) hx hb dL_pass_13 (by decide) ?_
        exact W.iret (v := 1) hx hb hr (fun t ht hW => ⟨⟨1, (dy, g), rfl, Or.inr (⟨hw, rfl, rfl, rfl⟩), ⟨by rw [ht]; exact hP, by rw [hAe]; exact hD⟩⟩, hS.F ht⟩) hS.2.2 dL_pass_14
  · rw [hRd] at hw
    have hP : va_P D vwCl ((kv_kw ci ad kc kh ks fo kl kp u mo n pa aE qp qm ql qv qc qe mt mv sw hv tk tn sc) ++ [((aO, .inl (ci 4, 1, .inr (.inl g))) : Nat × va_E)]) H := hP
    have hD : va_D A ((kv_kw ci ad kc kh ks fo kl kp u mo n pa aE qp qm ql qv qc qe mt mv sw hv tk tn sc) ++ [((aO, .inl (ci 4, 1, .inr (.inl g))) : Nat × va_E)]) := hD
    refine lv_i2l (v := r.toInt64) hx hb dL_pass_7 rfl ?_
    refine va_last hx hb hK hP hD hS (kv_kw ci ad kc kh ks fo kl kp u mo n pa aE qp qm ql qv qc qe mt mv sw hv tk tn sc).length 4 kv_last rfl (by unfold vp_in; decide) dL_pass_8 (fun H locs hP hD hS => ?_)
    rw [kv_last_set] at hP hD
    refine lv_goto (tgt := 15) hx hb dL_pass_9 (by decide) ?_
    refine lv_iconst (v := 0) hx hb dL_pass_15 (by decide) ?_
    exact W.iret (v := 0) hx hb hr (fun t ht hW => ⟨⟨0, (u, (vp_updL g 0 r.toInt64)), rfl, Or.inl ⟨r, hw, rfl, rfl⟩, ⟨by rw [ht]; exact hP, by rw [hAe]; exact hD⟩⟩, hS.F ht⟩) hS.2.2 dL_pass_16

set_option maxHeartbeats 4000000 in
set_option maxRecDepth 100000 in
theorem c_L_countOf (l : Launch) (hl9 : l.stackTraces = false) (D : va_G) (ci ad : Nat → Nat) (aS : Nat) (kc : Nat → Int32) (kh : Nat → Int32) (ks : Nat → Int32) (fo : Nat → Nat → Int32) (kl : Nat → Int32) (kp : Nat → Int32) (dy : Int32) (mo : Int32) (n : Nat) (pa : Nat → Nat) (aE : Nat) (qp : Nat → Int32) (qm : Nat → Int32) (ql : Nat → Int32) (qv : Nat → Int32) (qc : Nat → Int32) (qe : Nat → Int32) (mt : Nat → Int32) (mv : Nat → Int32) (sw : Nat → Int32) (hv : Int32) (tk : Nat → Int32) (tn : Nat → Int32) (sc : Nat → Int32) (aO : Nat) (g : Nat → Int64) (p0 : Int32) (hRn : pf_X2_countOf n qc p0 ≠ none) (hEx : ∀ c9, pf_X2_countOf n qc p0 = some (.inr c9) → c9 = 1) (sz : Nat) : Met l yL_countOf wsL_countOf ({ frames := 8, cells := 1, slots := 6, locals := 124 } : Room) (va_Pc [.ref (ad 0), .int p0, .ref aO] (kv_preW D ci aS ((kv_kw ci ad kc kh ks fo kl kp dy mo n pa aE qp qm ql qv qc qe mt mv sw hv tk tn sc) ++ [((aO, .inl (ci 4, 1, .inr (.inl g))) : Nat × va_E)]) sz)) (va_Qi (fun (r : Int32) (u : (Nat → Int64)) => (∃ v : Int32, pf_X2_countOf n qc p0 = some (.inl v) ∧ r = 0 ∧ u = vp_updL g 0 v.toInt64) ∨ (pf_X2_countOf n qc p0 = some (.inr 1) ∧ r = 1 ∧ u = g)) (fun u t => kv_post D ((kv_kw ci ad kc kh ks fo kl kp dy mo n pa aE qp qm ql qv qc qe mt mv sw hv tk tn sc) ++ [((aO, .inl (ci 4, 1, .inr (.inl g))) : Nat × va_E)]) sz (kv_kw ci ad kc kh ks fo kl kp dy mo n pa aE qp qm ql qv qc qe mt mv sw hv tk tn sc ++ [((aO, .inl (ci 4, 1, .inr (.inl u))) : Nat × va_E)]) t) (va_A ((kv_kw ci ad kc kh ks fo kl kp dy mo n pa aE qp qm ql qv qc qe mt mv sw hv tk tn sc) ++ [((aO, .inl (ci 4, 1, .inr (.inl g))) : Nat × va_E)]) sz)) 1 6 (va_A ((kv_kw ci ad kc kh ks fo kl kp dy mo n pa aE qp qm ql qv qc qe mt mv sw hv tk tn sc) ++ [((aO, .inl (ci 4, 1, .inr (.inl g))) : Nat × va_E)]) sz) := by
  refine va_MetW (cc := cL_countOf) (maxL := 4) (ret := (some .int)) (by decide) rfl ?_
  intro p en s m args below meth c s₁ B hml hv
  obtain ⟨hv0, ⟨⟨⟨hsz, hP, hK, hD0⟩, hT⟩, hT2⟩, hN⟩ := hv
  have hx := B.exec
  have hb := B.bytes
  have hr := B.returns
  have hts := atoms_spec (ws := wsL_countOf) B.pre
  have hown : s.vm.findClass RL = some m.cls := findClass_of_methodNamed B.named
  have hlocks := B.notSynchronized
  subst hsz
  have hD := hD0.self (sz := s.heap.size)
  generalize hAe : va_A ((kv_kw ci ad kc kh ks fo kl kp dy mo n pa aE qp qm ql qv qc qe mt mv sw hv tk tn sc) ++ [((aO, .inl (ci 4, 1, .inr (.inl g))) : Nat × va_E)]) s.heap.size = A at hD hT hT2 ⊢
  have hA : ∀ q : Nat, s.heap.size ≤ q → A q := fun q h => by rw [← hAe]; exact Or.inr h
  have hS : va_S A s.heap s.heap [] := va_S.rf
  have htb : c.exceptionTable.toList = tableOf [(0, 9, 12, 13)] := vx_table (x := yL_countOf) B (hts (.codeWith yL_countOf cL_countOf 4 (some .int) [(0, 9, 12, 13)]) (by decide +kernel))
  refine W.eq (show entryFrame m args 4 = _ from by rw [hv0, lg_entry_eq]) ?_
  have hl := lv_entry ([.ref (ad 0), .int p0, .ref aO]) (n := 4) (Nat.le_of_ble_eq_true rfl)
  generalize (lg_sl ([.ref (ad 0), .int p0, .ref aO]) ++ List.replicate (4 - (lg_sl ([.ref (ad 0), .int p0, .ref aO])).length) Slot.unset).toArray = ls at hl ⊢
  have hl : lv_has ls 4 [(0, .ref (ad 0)), (1, .int p0), (2, .ref aO)] := hl
  generalize hRd : pf_X2_countOf n qc p0 = Rz at hRn hEx ⊢
  refine lv_aload_n hx hb dL_countOf_0 rfl (lv_at hl 2 rfl) ?_
  refine lv_iconst (v := 0) hx hb dL_countOf_1 (by decide) ?_
  refine lv_aload_n hx hb dL_countOf_2 rfl (lv_at hl 0 rfl) ?_
  refine lv_iload_n hx hb dL_countOf_3 rfl (lv_at hl 1 rfl) ?_
  refine kv_xcalliF (vx_runV (As := [.int p0]) (rest := [.int 0, .ref aO]) ⟨hx, hb, hml, hown, hts⟩ (c_X2_countOf l hl9 D ci ad kc kh ks fo kl kp dy mo n pa aE qp qm ql qv qc qe mt mv sw hv tk tn sc p0 (by rw [hRd]; exact hRn) s.heap.size) (cwV 1 hts gL_countOf_X2_countOf rfl rfl rfl (by decide +kernel) ⟨Nat.le_of_ble_eq_true rfl, Nat.le_of_ble_eq_true rfl⟩) (kv_preVX hK (kv_Pl hP) (kv_Dl hD) hT hS hA (r := (RX2, TX2, 9)) (q0 := 0) (k := 3) rfl rfl rfl) rfl rfl hl.1 rfl (lv_room (Nat.le_of_ble_eq_true rfl)) dL_countOf_4 ⟨Nat.le_of_ble_eq_true rfl, Nat.le_of_ble_eq_true rfl⟩) hP hD hS hA (fun ce q9 u9 H locs hw hP hD hS h1 h2 h3 => ?_) (fun r u H locs hw hP hD hS => ?_)
  · rw [hRd] at hw
    rcases hEx _ hw with rfl
    · refine vx_catch (name := "java/lang/IndexOutOfBoundsException") hown ((tableOf [(0, 9, 12, 13)]).take 0) ((tableOf [(0, 9, 12, 13)]).getD 0 default) ((tableOf [(0, 9, 12, 13)]).drop 1) (by rw [htb]; rfl) (fun z hz => ?_) (by decide) (by decide) (hts (.classLink RL 13 "java/lang/IndexOutOfBoundsException") (by decide +kernel)) (va_Nw.use rfl (hT.2.2.2.1 1)) h1 h2 h3 ?_
      · exact absurd hz List.not_mem_nil
      · refine lv_astore_n (lv' := [(3, .ref q9), (0, .ref (ad 0)), (1, .int p0), (2, .ref aO)]) hx hb dL_countOf_12 rfl hl (by decide) rfl (fun ls hl => ?_)
        refine lv_iconst (v := 1) hx hb dL_countOf_13 (by decide) ?_
        exact W.iret (v := 1) hx hb hr (fun t ht hW => ⟨⟨1, g, rfl, Or.inr (⟨hw, rfl, rfl⟩), ⟨by rw [ht]; exact hP, by rw [hAe]; exact hD⟩⟩, hS.F ht⟩) hS.2.2 dL_countOf_14
  · rw [hRd] at hw
    have hP : va_P D vwCl ((kv_kw ci ad kc kh ks fo kl kp dy mo n pa aE qp qm ql qv qc qe mt mv sw hv tk tn sc) ++ [((aO, .inl (ci 4, 1, .inr (.inl g))) : Nat × va_E)]) H := hP
    have hD : va_D A ((kv_kw ci ad kc kh ks fo kl kp dy mo n pa aE qp qm ql qv qc qe mt mv sw hv tk tn sc) ++ [((aO, .inl (ci 4, 1, .inr (.inl g))) : Nat × va_E)]) := hD
    refine lv_i2l (v := r.toInt64) hx hb dL_countOf_7 rfl ?_
    refine va_last hx hb hK hP hD hS (kv_kw ci ad kc kh ks fo kl kp dy mo n pa aE qp qm ql qv qc qe mt mv sw hv tk tn sc).length 4 kv_last rfl (by unfold vp_in; decide) dL_countOf_8 (fun H locs hP hD hS => ?_)
    rw [kv_last_set] at hP hD
    refine lv_goto (tgt := 15) hx hb dL_countOf_9 (by decide) ?_
    refine lv_iconst (v := 0) hx hb dL_countOf_15 (by decide) ?_
    exact W.iret (v := 0) hx hb hr (fun t ht hW => ⟨⟨0, (vp_updL g 0 r.toInt64), rfl, Or.inl ⟨r, hw, rfl, rfl⟩, ⟨by rw [ht]; exact hP, by rw [hAe]; exact hD⟩⟩, hS.F ht⟩) hS.2.2 dL_countOf_16

set_option maxHeartbeats 4000000 in
set_option maxRecDepth 100000 in
theorem c_L_versionOf (l : Launch) (hl9 : l.stackTraces = false) (D : va_G) (ci ad : Nat → Nat) (aS : Nat) (kc : Nat → Int32) (kh : Nat → Int32) (ks : Nat → Int32) (fo : Nat → Nat → Int32) (kl : Nat → Int32) (kp : Nat → Int32) (dy : Int32) (mo : Int32) (n : Nat) (pa : Nat → Nat) (aE : Nat) (qp : Nat → Int32) (qm : Nat → Int32) (ql : Nat → Int32) (qv : Nat → Int32) (qc : Nat → Int32) (qe : Nat → Int32) (mt : Nat → Int32) (mv : Nat → Int32) (sw : Nat → Int32) (hv : Int32) (tk : Nat → Int32) (tn : Nat → Int32) (sc : Nat → Int32) (aO : Nat) (g : Nat → Int64) (p0 : Int32) (hRn : pf_X2_versionOf n qv p0 ≠ none) (hEx : ∀ c9, pf_X2_versionOf n qv p0 = some (.inr c9) → c9 = 1) (sz : Nat) : Met l yL_versionOf wsL_versionOf ({ frames := 8, cells := 1, slots := 6, locals := 124 } : Room) (va_Pc [.ref (ad 0), .int p0, .ref aO] (kv_preW D ci aS ((kv_kw ci ad kc kh ks fo kl kp dy mo n pa aE qp qm ql qv qc qe mt mv sw hv tk tn sc) ++ [((aO, .inl (ci 4, 1, .inr (.inl g))) : Nat × va_E)]) sz)) (va_Qi (fun (r : Int32) (u : (Nat → Int64)) => (∃ v : Int32, pf_X2_versionOf n qv p0 = some (.inl v) ∧ r = 0 ∧ u = vp_updL g 0 v.toInt64) ∨ (pf_X2_versionOf n qv p0 = some (.inr 1) ∧ r = 1 ∧ u = g)) (fun u t => kv_post D ((kv_kw ci ad kc kh ks fo kl kp dy mo n pa aE qp qm ql qv qc qe mt mv sw hv tk tn sc) ++ [((aO, .inl (ci 4, 1, .inr (.inl g))) : Nat × va_E)]) sz (kv_kw ci ad kc kh ks fo kl kp dy mo n pa aE qp qm ql qv qc qe mt mv sw hv tk tn sc ++ [((aO, .inl (ci 4, 1, .inr (.inl u))) : Nat × va_E)]) t) (va_A ((kv_kw ci ad kc kh ks fo kl kp dy mo n pa aE qp qm ql qv qc qe mt mv sw hv tk tn sc) ++ [((aO, .inl (ci 4, 1, .inr (.inl g))) : Nat × va_E)]) sz)) 1 6 (va_A ((kv_kw ci ad kc kh ks fo kl kp dy mo n pa aE qp qm ql qv qc qe mt mv sw hv tk tn sc) ++ [((aO, .inl (ci 4, 1, .inr (.inl g))) : Nat × va_E)]) sz) := by
  refine va_MetW (cc := cL_versionOf) (maxL := 4) (ret := (some .int)) (by decide) rfl ?_
  intro p en s m args below meth c s₁ B hml hv
  obtain ⟨hv0, ⟨⟨⟨hsz, hP, hK, hD0⟩, hT⟩, hT2⟩, hN⟩ := hv
  have hx := B.exec
  have hb := B.bytes
  have hr := B.returns
  have hts := atoms_spec (ws := wsL_versionOf) B.pre
  have hown : s.vm.findClass RL = some m.cls := findClass_of_methodNamed B.named
  have hlocks := B.notSynchronized
  subst hsz
  have hD := hD0.self (sz := s.heap.size)
  generalize hAe : va_A ((kv_kw ci ad kc kh ks fo kl kp dy mo n pa aE qp qm ql qv qc qe mt mv sw hv tk tn sc) ++ [((aO, .inl (ci 4, 1, .inr (.inl g))) : Nat × va_E)]) s.heap.size = A at hD hT hT2 ⊢
  have hA : ∀ q : Nat, s.heap.size ≤ q → A q := fun q h => by rw [← hAe]; exact Or.inr h
  have hS : va_S A s.heap s.heap [] := va_S.rf
  have htb : c.exceptionTable.toList = tableOf [(0, 9, 12, 13)] := vx_table (x := yL_versionOf) B (hts (.codeWith yL_versionOf cL_versionOf 4 (some .int) [(0, 9, 12, 13)]) (by decide +kernel))
  refine W.eq (show entryFrame m args 4 = _ from by rw [hv0, lg_entry_eq]) ?_
  have hl := lv_entry ([.ref (ad 0), .int p0, .ref aO]) (n := 4) (Nat.le_of_ble_eq_true rfl)
  generalize (lg_sl ([.ref (ad 0), .int p0, .ref aO]) ++ List.replicate (4 - (lg_sl ([.ref (ad 0), .int p0, .ref aO])).length) Slot.unset).toArray = ls at hl ⊢
  have hl : lv_has ls 4 [(0, .ref (ad 0)), (1, .int p0), (2, .ref aO)] := hl
  generalize hRd : pf_X2_versionOf n qv p0 = Rz at hRn hEx ⊢
  refine lv_aload_n hx hb dL_versionOf_0 rfl (lv_at hl 2 rfl) ?_
  refine lv_iconst (v := 0) hx hb dL_versionOf_1 (by decide) ?_
  refine lv_aload_n hx hb dL_versionOf_2 rfl (lv_at hl 0 rfl) ?_
  refine lv_iload_n hx hb dL_versionOf_3 rfl (lv_at hl 1 rfl) ?_
  refine kv_xcalliF (vx_runV (As := [.int p0]) (rest := [.int 0, .ref aO]) ⟨hx, hb, hml, hown, hts⟩ (c_X2_versionOf l hl9 D ci ad kc kh ks fo kl kp dy mo n pa aE qp qm ql qv qc qe mt mv sw hv tk tn sc p0 (by rw [hRd]; exact hRn) s.heap.size) (cwV 1 hts gL_versionOf_X2_versionOf rfl rfl rfl (by decide +kernel) ⟨Nat.le_of_ble_eq_true rfl, Nat.le_of_ble_eq_true rfl⟩) (kv_preVX hK (kv_Pl hP) (kv_Dl hD) hT hS hA (r := (RX2, TX2, 9)) (q0 := 0) (k := 3) rfl rfl rfl) rfl rfl hl.1 rfl (lv_room (Nat.le_of_ble_eq_true rfl)) dL_versionOf_4 ⟨Nat.le_of_ble_eq_true rfl, Nat.le_of_ble_eq_true rfl⟩) hP hD hS hA (fun ce q9 u9 H locs hw hP hD hS h1 h2 h3 => ?_) (fun r u H locs hw hP hD hS => ?_)
  · rw [hRd] at hw
    rcases hEx _ hw with rfl
    · refine vx_catch (name := "java/lang/IndexOutOfBoundsException") hown ((tableOf [(0, 9, 12, 13)]).take 0) ((tableOf [(0, 9, 12, 13)]).getD 0 default) ((tableOf [(0, 9, 12, 13)]).drop 1) (by rw [htb]; rfl) (fun z hz => ?_) (by decide) (by decide) (hts (.classLink RL 13 "java/lang/IndexOutOfBoundsException") (by decide +kernel)) (va_Nw.use rfl (hT.2.2.2.1 1)) h1 h2 h3 ?_
      · exact absurd hz List.not_mem_nil
      · refine lv_astore_n (lv' := [(3, .ref q9), (0, .ref (ad 0)), (1, .int p0), (2, .ref aO)]) hx hb dL_versionOf_12 rfl hl (by decide) rfl (fun ls hl => ?_)
        refine lv_iconst (v := 1) hx hb dL_versionOf_13 (by decide) ?_
        exact W.iret (v := 1) hx hb hr (fun t ht hW => ⟨⟨1, g, rfl, Or.inr (⟨hw, rfl, rfl⟩), ⟨by rw [ht]; exact hP, by rw [hAe]; exact hD⟩⟩, hS.F ht⟩) hS.2.2 dL_versionOf_14
  · rw [hRd] at hw
    have hP : va_P D vwCl ((kv_kw ci ad kc kh ks fo kl kp dy mo n pa aE qp qm ql qv qc qe mt mv sw hv tk tn sc) ++ [((aO, .inl (ci 4, 1, .inr (.inl g))) : Nat × va_E)]) H := hP
    have hD : va_D A ((kv_kw ci ad kc kh ks fo kl kp dy mo n pa aE qp qm ql qv qc qe mt mv sw hv tk tn sc) ++ [((aO, .inl (ci 4, 1, .inr (.inl g))) : Nat × va_E)]) := hD
    refine lv_i2l (v := r.toInt64) hx hb dL_versionOf_7 rfl ?_
    refine va_last hx hb hK hP hD hS (kv_kw ci ad kc kh ks fo kl kp dy mo n pa aE qp qm ql qv qc qe mt mv sw hv tk tn sc).length 4 kv_last rfl (by unfold vp_in; decide) dL_versionOf_8 (fun H locs hP hD hS => ?_)
    rw [kv_last_set] at hP hD
    refine lv_goto (tgt := 15) hx hb dL_versionOf_9 (by decide) ?_
    refine lv_iconst (v := 0) hx hb dL_versionOf_15 (by decide) ?_
    exact W.iret (v := 0) hx hb hr (fun t ht hW => ⟨⟨0, (vp_updL g 0 r.toInt64), rfl, Or.inl ⟨r, hw, rfl, rfl⟩, ⟨by rw [ht]; exact hP, by rw [hAe]; exact hD⟩⟩, hS.F ht⟩) hS.2.2 dL_versionOf_16

set_option maxHeartbeats 4000000 in
set_option maxRecDepth 100000 in
theorem c_L_latest (l : Launch) (hl9 : l.stackTraces = false) (D : va_G) (ci ad : Nat → Nat) (aS : Nat) (kc : Nat → Int32) (kh : Nat → Int32) (ks : Nat → Int32) (fo : Nat → Nat → Int32) (kl : Nat → Int32) (kp : Nat → Int32) (dy : Int32) (mo : Int32) (n : Nat) (pa : Nat → Nat) (aE : Nat) (qp : Nat → Int32) (qm : Nat → Int32) (ql : Nat → Int32) (qv : Nat → Int32) (qc : Nat → Int32) (qe : Nat → Int32) (mt : Nat → Int32) (mv : Nat → Int32) (sw : Nat → Int32) (hv : Int32) (tk : Nat → Int32) (tn : Nat → Int32) (sc : Nat → Int32) (aO : Nat) (g : Nat → Int64) (p0 : Int32) (hRn : pf_X2_latest kl p0 ≠ none) (hEx : ∀ c9, pf_X2_latest kl p0 = some (.inr c9) → c9 = 1) (sz : Nat) : Met l yL_latest wsL_latest ({ frames := 8, cells := 1, slots := 6, locals := 123 } : Room) (va_Pc [.ref (ad 0), .int p0, .ref aO] (kv_preW D ci aS ((kv_kw ci ad kc kh ks fo kl kp dy mo n pa aE qp qm ql qv qc qe mt mv sw hv tk tn sc) ++ [((aO, .inl (ci 4, 1, .inr (.inl g))) : Nat × va_E)]) sz)) (va_Qi (fun (r : Int32) (u : (Nat → Int64)) => (∃ v : Int32, pf_X2_latest kl p0 = some (.inl v) ∧ r = 0 ∧ u = vp_updL g 0 v.toInt64) ∨ (pf_X2_latest kl p0 = some (.inr 1) ∧ r = 1 ∧ u = g)) (fun u t => kv_post D ((kv_kw ci ad kc kh ks fo kl kp dy mo n pa aE qp qm ql qv qc qe mt mv sw hv tk tn sc) ++ [((aO, .inl (ci 4, 1, .inr (.inl g))) : Nat × va_E)]) sz (kv_kw ci ad kc kh ks fo kl kp dy mo n pa aE qp qm ql qv qc qe mt mv sw hv tk tn sc ++ [((aO, .inl (ci 4, 1, .inr (.inl u))) : Nat × va_E)]) t) (va_A ((kv_kw ci ad kc kh ks fo kl kp dy mo n pa aE qp qm ql qv qc qe mt mv sw hv tk tn sc) ++ [((aO, .inl (ci 4, 1, .inr (.inl g))) : Nat × va_E)]) sz)) 1 6 (va_A ((kv_kw ci ad kc kh ks fo kl kp dy mo n pa aE qp qm ql qv qc qe mt mv sw hv tk tn sc) ++ [((aO, .inl (ci 4, 1, .inr (.inl g))) : Nat × va_E)]) sz) := by
  refine va_MetW (cc := cL_latest) (maxL := 4) (ret := (some .int)) (by decide) rfl ?_
  intro p en s m args below meth c s₁ B hml hv
  obtain ⟨hv0, ⟨⟨⟨hsz, hP, hK, hD0⟩, hT⟩, hT2⟩, hN⟩ := hv
  have hx := B.exec
  have hb := B.bytes
  have hr := B.returns
  have hts := atoms_spec (ws := wsL_latest) B.pre
  have hown : s.vm.findClass RL = some m.cls := findClass_of_methodNamed B.named
  have hlocks := B.notSynchronized
  subst hsz
  have hD := hD0.self (sz := s.heap.size)
  generalize hAe : va_A ((kv_kw ci ad kc kh ks fo kl kp dy mo n pa aE qp qm ql qv qc qe mt mv sw hv tk tn sc) ++ [((aO, .inl (ci 4, 1, .inr (.inl g))) : Nat × va_E)]) s.heap.size = A at hD hT hT2 ⊢
  have hA : ∀ q : Nat, s.heap.size ≤ q → A q := fun q h => by rw [← hAe]; exact Or.inr h
  have hS : va_S A s.heap s.heap [] := va_S.rf
  have htb : c.exceptionTable.toList = tableOf [(0, 9, 12, 13)] := vx_table (x := yL_latest) B (hts (.codeWith yL_latest cL_latest 4 (some .int) [(0, 9, 12, 13)]) (by decide +kernel))
  refine W.eq (show entryFrame m args 4 = _ from by rw [hv0, lg_entry_eq]) ?_
  have hl := lv_entry ([.ref (ad 0), .int p0, .ref aO]) (n := 4) (Nat.le_of_ble_eq_true rfl)
  generalize (lg_sl ([.ref (ad 0), .int p0, .ref aO]) ++ List.replicate (4 - (lg_sl ([.ref (ad 0), .int p0, .ref aO])).length) Slot.unset).toArray = ls at hl ⊢
  have hl : lv_has ls 4 [(0, .ref (ad 0)), (1, .int p0), (2, .ref aO)] := hl
  generalize hRd : pf_X2_latest kl p0 = Rz at hRn hEx ⊢
  refine lv_aload_n hx hb dL_latest_0 rfl (lv_at hl 2 rfl) ?_
  refine lv_iconst (v := 0) hx hb dL_latest_1 (by decide) ?_
  refine lv_aload_n hx hb dL_latest_2 rfl (lv_at hl 0 rfl) ?_
  refine lv_iload_n hx hb dL_latest_3 rfl (lv_at hl 1 rfl) ?_
  refine kv_xcalliF (vx_runV (As := [.int p0]) (rest := [.int 0, .ref aO]) ⟨hx, hb, hml, hown, hts⟩ (c_X2_latest l hl9 D ci ad kc kh ks fo kl kp dy mo n pa aE qp qm ql qv qc qe mt mv sw hv tk tn sc p0 (by rw [hRd]; exact hRn) s.heap.size) (cwV 1 hts gL_latest_X2_latest rfl rfl rfl (by decide +kernel) ⟨Nat.le_of_ble_eq_true rfl, Nat.le_of_ble_eq_true rfl⟩) (kv_preVX hK (kv_Pl hP) (kv_Dl hD) hT hS hA (r := (RX2, TX2, 9)) (q0 := 0) (k := 3) rfl rfl rfl) rfl rfl hl.1 rfl (lv_room (Nat.le_of_ble_eq_true rfl)) dL_latest_4 ⟨Nat.le_of_ble_eq_true rfl, Nat.le_of_ble_eq_true rfl⟩) hP hD hS hA (fun ce q9 u9 H locs hw hP hD hS h1 h2 h3 => ?_) (fun r u H locs hw hP hD hS => ?_)
  · rw [hRd] at hw
    rcases hEx _ hw with rfl
    · refine vx_catch (name := "java/lang/IndexOutOfBoundsException") hown ((tableOf [(0, 9, 12, 13)]).take 0) ((tableOf [(0, 9, 12, 13)]).getD 0 default) ((tableOf [(0, 9, 12, 13)]).drop 1) (by rw [htb]; rfl) (fun z hz => ?_) (by decide) (by decide) (hts (.classLink RL 13 "java/lang/IndexOutOfBoundsException") (by decide +kernel)) (va_Nw.use rfl (hT.2.2.2.1 1)) h1 h2 h3 ?_
      · exact absurd hz List.not_mem_nil
      · refine lv_astore_n (lv' := [(3, .ref q9), (0, .ref (ad 0)), (1, .int p0), (2, .ref aO)]) hx hb dL_latest_12 rfl hl (by decide) rfl (fun ls hl => ?_)
        refine lv_iconst (v := 1) hx hb dL_latest_13 (by decide) ?_
        exact W.iret (v := 1) hx hb hr (fun t ht hW => ⟨⟨1, g, rfl, Or.inr (⟨hw, rfl, rfl⟩), ⟨by rw [ht]; exact hP, by rw [hAe]; exact hD⟩⟩, hS.F ht⟩) hS.2.2 dL_latest_14
  · rw [hRd] at hw
    have hP : va_P D vwCl ((kv_kw ci ad kc kh ks fo kl kp dy mo n pa aE qp qm ql qv qc qe mt mv sw hv tk tn sc) ++ [((aO, .inl (ci 4, 1, .inr (.inl g))) : Nat × va_E)]) H := hP
    have hD : va_D A ((kv_kw ci ad kc kh ks fo kl kp dy mo n pa aE qp qm ql qv qc qe mt mv sw hv tk tn sc) ++ [((aO, .inl (ci 4, 1, .inr (.inl g))) : Nat × va_E)]) := hD
    refine lv_i2l (v := r.toInt64) hx hb dL_latest_7 rfl ?_
    refine va_last hx hb hK hP hD hS (kv_kw ci ad kc kh ks fo kl kp dy mo n pa aE qp qm ql qv qc qe mt mv sw hv tk tn sc).length 4 kv_last rfl (by unfold vp_in; decide) dL_latest_8 (fun H locs hP hD hS => ?_)
    rw [kv_last_set] at hP hD
    refine lv_goto (tgt := 15) hx hb dL_latest_9 (by decide) ?_
    refine lv_iconst (v := 0) hx hb dL_latest_15 (by decide) ?_
    exact W.iret (v := 0) hx hb hr (fun t ht hW => ⟨⟨0, (vp_updL g 0 r.toInt64), rfl, Or.inl ⟨r, hw, rfl, rfl⟩, ⟨by rw [ht]; exact hP, by rw [hAe]; exact hD⟩⟩, hS.F ht⟩) hS.2.2 dL_latest_16

set_option maxHeartbeats 4000000 in
set_option maxRecDepth 100000 in
theorem c_L_hostOf (l : Launch) (hl9 : l.stackTraces = false) (D : va_G) (ci ad : Nat → Nat) (aS : Nat) (kc : Nat → Int32) (kh : Nat → Int32) (ks : Nat → Int32) (fo : Nat → Nat → Int32) (kl : Nat → Int32) (kp : Nat → Int32) (dy : Int32) (mo : Int32) (n : Nat) (pa : Nat → Nat) (aE : Nat) (qp : Nat → Int32) (qm : Nat → Int32) (ql : Nat → Int32) (qv : Nat → Int32) (qc : Nat → Int32) (qe : Nat → Int32) (mt : Nat → Int32) (mv : Nat → Int32) (sw : Nat → Int32) (hv : Int32) (tk : Nat → Int32) (tn : Nat → Int32) (sc : Nat → Int32) (aO : Nat) (g : Nat → Int64) (p0 : Int32) (hRn : pf_X2_hostOf kh p0 ≠ none) (hEx : ∀ c9, pf_X2_hostOf kh p0 = some (.inr c9) → c9 = 1) (sz : Nat) : Met l yL_hostOf wsL_hostOf ({ frames := 8, cells := 1, slots := 6, locals := 123 } : Room) (va_Pc [.ref (ad 0), .int p0, .ref aO] (kv_preW D ci aS ((kv_kw ci ad kc kh ks fo kl kp dy mo n pa aE qp qm ql qv qc qe mt mv sw hv tk tn sc) ++ [((aO, .inl (ci 4, 1, .inr (.inl g))) : Nat × va_E)]) sz)) (va_Qi (fun (r : Int32) (u : (Nat → Int64)) => (∃ v : Int32, pf_X2_hostOf kh p0 = some (.inl v) ∧ r = 0 ∧ u = vp_updL g 0 v.toInt64) ∨ (pf_X2_hostOf kh p0 = some (.inr 1) ∧ r = 1 ∧ u = g)) (fun u t => kv_post D ((kv_kw ci ad kc kh ks fo kl kp dy mo n pa aE qp qm ql qv qc qe mt mv sw hv tk tn sc) ++ [((aO, .inl (ci 4, 1, .inr (.inl g))) : Nat × va_E)]) sz (kv_kw ci ad kc kh ks fo kl kp dy mo n pa aE qp qm ql qv qc qe mt mv sw hv tk tn sc ++ [((aO, .inl (ci 4, 1, .inr (.inl u))) : Nat × va_E)]) t) (va_A ((kv_kw ci ad kc kh ks fo kl kp dy mo n pa aE qp qm ql qv qc qe mt mv sw hv tk tn sc) ++ [((aO, .inl (ci 4, 1, .inr (.inl g))) : Nat × va_E)]) sz)) 1 6 (va_A ((kv_kw ci ad kc kh ks fo kl kp dy mo n pa aE qp qm ql qv qc qe mt mv sw hv tk tn sc) ++ [((aO, .inl (ci 4, 1, .inr (.inl g))) : Nat × va_E)]) sz) := by
  refine va_MetW (cc := cL_hostOf) (maxL := 4) (ret := (some .int)) (by decide) rfl ?_
  intro p en s m args below meth c s₁ B hml hv
  obtain ⟨hv0, ⟨⟨⟨hsz, hP, hK, hD0⟩, hT⟩, hT2⟩, hN⟩ := hv
  have hx := B.exec
  have hb := B.bytes
  have hr := B.returns
  have hts := atoms_spec (ws := wsL_hostOf) B.pre
  have hown : s.vm.findClass RL = some m.cls := findClass_of_methodNamed B.named
  have hlocks := B.notSynchronized
  subst hsz
  have hD := hD0.self (sz := s.heap.size)
  generalize hAe : va_A ((kv_kw ci ad kc kh ks fo kl kp dy mo n pa aE qp qm ql qv qc qe mt mv sw hv tk tn sc) ++ [((aO, .inl (ci 4, 1, .inr (.inl g))) : Nat × va_E)]) s.heap.size = A at hD hT hT2 ⊢
  have hA : ∀ q : Nat, s.heap.size ≤ q → A q := fun q h => by rw [← hAe]; exact Or.inr h
  have hS : va_S A s.heap s.heap [] := va_S.rf
  have htb : c.exceptionTable.toList = tableOf [(0, 9, 12, 13)] := vx_table (x := yL_hostOf) B (hts (.codeWith yL_hostOf cL_hostOf 4 (some .int) [(0, 9, 12, 13)]) (by decide +kernel))
  refine W.eq (show entryFrame m args 4 = _ from by rw [hv0, lg_entry_eq]) ?_
  have hl := lv_entry ([.ref (ad 0), .int p0, .ref aO]) (n := 4) (Nat.le_of_ble_eq_true rfl)
  generalize (lg_sl ([.ref (ad 0), .int p0, .ref aO]) ++ List.replicate (4 - (lg_sl ([.ref (ad 0), .int p0, .ref aO])).length) Slot.unset).toArray = ls at hl ⊢
  have hl : lv_has ls 4 [(0, .ref (ad 0)), (1, .int p0), (2, .ref aO)] := hl
  generalize hRd : pf_X2_hostOf kh p0 = Rz at hRn hEx ⊢
  refine lv_aload_n hx hb dL_hostOf_0 rfl (lv_at hl 2 rfl) ?_
  refine lv_iconst (v := 0) hx hb dL_hostOf_1 (by decide) ?_
  refine lv_aload_n hx hb dL_hostOf_2 rfl (lv_at hl 0 rfl) ?_
  refine lv_iload_n hx hb dL_hostOf_3 rfl (lv_at hl 1 rfl) ?_
  refine kv_xcalliF (vx_runV (As := [.int p0]) (rest := [.int 0, .ref aO]) ⟨hx, hb, hml, hown, hts⟩ (c_X2_hostOf l hl9 D ci ad kc kh ks fo kl kp dy mo n pa aE qp qm ql qv qc qe mt mv sw hv tk tn sc p0 (by rw [hRd]; exact hRn) s.heap.size) (cwV 1 hts gL_hostOf_X2_hostOf rfl rfl rfl (by decide +kernel) ⟨Nat.le_of_ble_eq_true rfl, Nat.le_of_ble_eq_true rfl⟩) (kv_preVX hK (kv_Pl hP) (kv_Dl hD) hT hS hA (r := (RX2, TX2, 9)) (q0 := 0) (k := 3) rfl rfl rfl) rfl rfl hl.1 rfl (lv_room (Nat.le_of_ble_eq_true rfl)) dL_hostOf_4 ⟨Nat.le_of_ble_eq_true rfl, Nat.le_of_ble_eq_true rfl⟩) hP hD hS hA (fun ce q9 u9 H locs hw hP hD hS h1 h2 h3 => ?_) (fun r u H locs hw hP hD hS => ?_)
  · rw [hRd] at hw
    rcases hEx _ hw with rfl
    · refine vx_catch (name := "java/lang/IndexOutOfBoundsException") hown ((tableOf [(0, 9, 12, 13)]).take 0) ((tableOf [(0, 9, 12, 13)]).getD 0 default) ((tableOf [(0, 9, 12, 13)]).drop 1) (by rw [htb]; rfl) (fun z hz => ?_) (by decide) (by decide) (hts (.classLink RL 13 "java/lang/IndexOutOfBoundsException") (by decide +kernel)) (va_Nw.use rfl (hT.2.2.2.1 1)) h1 h2 h3 ?_
      · exact absurd hz List.not_mem_nil
      · refine lv_astore_n (lv' := [(3, .ref q9), (0, .ref (ad 0)), (1, .int p0), (2, .ref aO)]) hx hb dL_hostOf_12 rfl hl (by decide) rfl (fun ls hl => ?_)
        refine lv_iconst (v := 1) hx hb dL_hostOf_13 (by decide) ?_
        exact W.iret (v := 1) hx hb hr (fun t ht hW => ⟨⟨1, g, rfl, Or.inr (⟨hw, rfl, rfl⟩), ⟨by rw [ht]; exact hP, by rw [hAe]; exact hD⟩⟩, hS.F ht⟩) hS.2.2 dL_hostOf_14
  · rw [hRd] at hw
    have hP : va_P D vwCl ((kv_kw ci ad kc kh ks fo kl kp dy mo n pa aE qp qm ql qv qc qe mt mv sw hv tk tn sc) ++ [((aO, .inl (ci 4, 1, .inr (.inl g))) : Nat × va_E)]) H := hP
    have hD : va_D A ((kv_kw ci ad kc kh ks fo kl kp dy mo n pa aE qp qm ql qv qc qe mt mv sw hv tk tn sc) ++ [((aO, .inl (ci 4, 1, .inr (.inl g))) : Nat × va_E)]) := hD
    refine lv_i2l (v := r.toInt64) hx hb dL_hostOf_7 rfl ?_
    refine va_last hx hb hK hP hD hS (kv_kw ci ad kc kh ks fo kl kp dy mo n pa aE qp qm ql qv qc qe mt mv sw hv tk tn sc).length 4 kv_last rfl (by unfold vp_in; decide) dL_hostOf_8 (fun H locs hP hD hS => ?_)
    rw [kv_last_set] at hP hD
    refine lv_goto (tgt := 15) hx hb dL_hostOf_9 (by decide) ?_
    refine lv_iconst (v := 0) hx hb dL_hostOf_15 (by decide) ?_
    exact W.iret (v := 0) hx hb hr (fun t ht hW => ⟨⟨0, (vp_updL g 0 r.toInt64), rfl, Or.inl ⟨r, hw, rfl, rfl⟩, ⟨by rw [ht]; exact hP, by rw [hAe]; exact hD⟩⟩, hS.F ht⟩) hS.2.2 dL_hostOf_16

set_option maxHeartbeats 4000000 in
set_option maxRecDepth 100000 in
theorem c_L_weight (l : Launch) (hl9 : l.stackTraces = false) (D : va_G) (ci ad : Nat → Nat) (aS : Nat) (kc : Nat → Int32) (kh : Nat → Int32) (ks : Nat → Int32) (fo : Nat → Nat → Int32) (kl : Nat → Int32) (kp : Nat → Int32) (dy : Int32) (mo : Int32) (n : Nat) (pa : Nat → Nat) (aE : Nat) (qp : Nat → Int32) (qm : Nat → Int32) (ql : Nat → Int32) (qv : Nat → Int32) (qc : Nat → Int32) (qe : Nat → Int32) (mt : Nat → Int32) (mv : Nat → Int32) (sw : Nat → Int32) (hv : Int32) (tk : Nat → Int32) (tn : Nat → Int32) (sc : Nat → Int32) (aO : Nat) (g : Nat → Int64) (p0 : Int32) (p1 : Int32) (hRn : pf_X2_weight kc fo kp p0 p1 ≠ none) (hEx : ∀ c9, pf_X2_weight kc fo kp p0 p1 = some (.inr c9) → c9 = 1) (sz : Nat) : Met l yL_weight wsL_weight ({ frames := 8, cells := 2, slots := 12, locals := 124 } : Room) (va_Pc [.ref (ad 0), .int p0, .int p1, .ref aO] (kv_preW D ci aS ((kv_kw ci ad kc kh ks fo kl kp dy mo n pa aE qp qm ql qv qc qe mt mv sw hv tk tn sc) ++ [((aO, .inl (ci 4, 1, .inr (.inl g))) : Nat × va_E)]) sz)) (va_Qi (fun (r : Int32) (u : (Nat → Int64)) => (∃ v : Int32, pf_X2_weight kc fo kp p0 p1 = some (.inl v) ∧ r = 0 ∧ u = vp_updL g 0 v.toInt64) ∨ (pf_X2_weight kc fo kp p0 p1 = some (.inr 1) ∧ r = 1 ∧ u = g)) (fun u t => kv_post D ((kv_kw ci ad kc kh ks fo kl kp dy mo n pa aE qp qm ql qv qc qe mt mv sw hv tk tn sc) ++ [((aO, .inl (ci 4, 1, .inr (.inl g))) : Nat × va_E)]) sz (kv_kw ci ad kc kh ks fo kl kp dy mo n pa aE qp qm ql qv qc qe mt mv sw hv tk tn sc ++ [((aO, .inl (ci 4, 1, .inr (.inl u))) : Nat × va_E)]) t) (va_A ((kv_kw ci ad kc kh ks fo kl kp dy mo n pa aE qp qm ql qv qc qe mt mv sw hv tk tn sc) ++ [((aO, .inl (ci 4, 1, .inr (.inl g))) : Nat × va_E)]) sz)) 2 12 (va_A ((kv_kw ci ad kc kh ks fo kl kp dy mo n pa aE qp qm ql qv qc qe mt mv sw hv tk tn sc) ++ [((aO, .inl (ci 4, 1, .inr (.inl g))) : Nat × va_E)]) sz) := by
  refine va_MetW (cc := cL_weight) (maxL := 5) (ret := (some .int)) (by decide) rfl ?_
  intro p en s m args below meth c s₁ B hml hv
  obtain ⟨hv0, ⟨⟨⟨hsz, hP, hK, hD0⟩, hT⟩, hT2⟩, hN⟩ := hv
  have hx := B.exec
  have hb := B.bytes
  have hr := B.returns
  have hts := atoms_spec (ws := wsL_weight) B.pre
  have hown : s.vm.findClass RL = some m.cls := findClass_of_methodNamed B.named
  have hlocks := B.notSynchronized
  subst hsz
  have hD := hD0.self (sz := s.heap.size)
  generalize hAe : va_A ((kv_kw ci ad kc kh ks fo kl kp dy mo n pa aE qp qm ql qv qc qe mt mv sw hv tk tn sc) ++ [((aO, .inl (ci 4, 1, .inr (.inl g))) : Nat × va_E)]) s.heap.size = A at hD hT hT2 ⊢
  have hA : ∀ q : Nat, s.heap.size ≤ q → A q := fun q h => by rw [← hAe]; exact Or.inr h
  have hS : va_S A s.heap s.heap [] := va_S.rf
  have htb : c.exceptionTable.toList = tableOf [(0, 10, 13, 13)] := vx_table (x := yL_weight) B (hts (.codeWith yL_weight cL_weight 5 (some .int) [(0, 10, 13, 13)]) (by decide +kernel))
  refine W.eq (show entryFrame m args 5 = _ from by rw [hv0, lg_entry_eq]) ?_
  have hl := lv_entry ([.ref (ad 0), .int p0, .int p1, .ref aO]) (n := 5) (Nat.le_of_ble_eq_true rfl)
  generalize (lg_sl ([.ref (ad 0), .int p0, .int p1, .ref aO]) ++ List.replicate (5 - (lg_sl ([.ref (ad 0), .int p0, .int p1, .ref aO])).length) Slot.unset).toArray = ls at hl ⊢
  have hl : lv_has ls 5 [(0, .ref (ad 0)), (1, .int p0), (2, .int p1), (3, .ref aO)] := hl
  generalize hRd : pf_X2_weight kc fo kp p0 p1 = Rz at hRn hEx ⊢
  refine lv_aload_n hx hb dL_weight_0 rfl (lv_at hl 3 rfl) ?_
  refine lv_iconst (v := 0) hx hb dL_weight_1 (by decide) ?_
  refine lv_aload_n hx hb dL_weight_2 rfl (lv_at hl 0 rfl) ?_
  refine lv_iload_n hx hb dL_weight_3 rfl (lv_at hl 1 rfl) ?_
  refine lv_iload_n hx hb dL_weight_4 rfl (lv_at hl 2 rfl) ?_
  refine kv_xcalliF (vx_runV (As := [.int p0, .int p1]) (rest := [.int 0, .ref aO]) ⟨hx, hb, hml, hown, hts⟩ (c_X2_weight l hl9 D ci ad kc kh ks fo kl kp dy mo n pa aE qp qm ql qv qc qe mt mv sw hv tk tn sc p0 p1 (by rw [hRd]; exact hRn) s.heap.size) (cwV 2 hts gL_weight_X2_weight rfl rfl rfl (by decide +kernel) ⟨Nat.le_of_ble_eq_true rfl, Nat.le_of_ble_eq_true rfl⟩) (kv_preVX hK (kv_Pl hP) (kv_Dl hD) hT hS hA (r := (RX2, TX2, 9)) (q0 := 0) (k := 3) rfl rfl rfl) rfl rfl hl.1 rfl (lv_room (Nat.le_of_ble_eq_true rfl)) dL_weight_5 ⟨Nat.le_of_ble_eq_true rfl, Nat.le_of_ble_eq_true rfl⟩) hP hD hS hA (fun ce q9 u9 H locs hw hP hD hS h1 h2 h3 => ?_) (fun r u H locs hw hP hD hS => ?_)
  · rw [hRd] at hw
    rcases hEx _ hw with rfl
    · refine vx_catch (name := "java/lang/IndexOutOfBoundsException") hown ((tableOf [(0, 10, 13, 13)]).take 0) ((tableOf [(0, 10, 13, 13)]).getD 0 default) ((tableOf [(0, 10, 13, 13)]).drop 1) (by rw [htb]; rfl) (fun z hz => ?_) (by decide) (by decide) (hts (.classLink RL 13 "java/lang/IndexOutOfBoundsException") (by decide +kernel)) (va_Nw.use rfl (hT.2.2.2.1 1)) h1 h2 h3 ?_
      · exact absurd hz List.not_mem_nil
      · refine lv_astore (lv' := [(4, .ref q9), (0, .ref (ad 0)), (1, .int p0), (2, .int p1), (3, .ref aO)]) hx hb dL_weight_13 hl (by decide) rfl (fun ls hl => ?_)
        refine lv_iconst (v := 1) hx hb dL_weight_15 (by decide) ?_
        exact W.iret (v := 1) hx hb hr (fun t ht hW => ⟨⟨1, g, rfl, Or.inr (⟨hw, rfl, rfl⟩), ⟨by rw [ht]; exact hP, by rw [hAe]; exact hD⟩⟩, hS.F ht⟩) hS.2.2 dL_weight_16
  · rw [hRd] at hw
    have hP : va_P D vwCl ((kv_kw ci ad kc kh ks fo kl kp dy mo n pa aE qp qm ql qv qc qe mt mv sw hv tk tn sc) ++ [((aO, .inl (ci 4, 1, .inr (.inl g))) : Nat × va_E)]) H := hP
    have hD : va_D A ((kv_kw ci ad kc kh ks fo kl kp dy mo n pa aE qp qm ql qv qc qe mt mv sw hv tk tn sc) ++ [((aO, .inl (ci 4, 1, .inr (.inl g))) : Nat × va_E)]) := hD
    refine lv_i2l (v := r.toInt64) hx hb dL_weight_8 rfl ?_
    refine va_last hx hb hK hP hD hS (kv_kw ci ad kc kh ks fo kl kp dy mo n pa aE qp qm ql qv qc qe mt mv sw hv tk tn sc).length 4 kv_last rfl (by unfold vp_in; decide) dL_weight_9 (fun H locs hP hD hS => ?_)
    rw [kv_last_set] at hP hD
    refine lv_goto (tgt := 17) hx hb dL_weight_10 (by decide) ?_
    refine lv_iconst (v := 0) hx hb dL_weight_17 (by decide) ?_
    exact W.iret (v := 0) hx hb hr (fun t ht hW => ⟨⟨0, (vp_updL g 0 r.toInt64), rfl, Or.inl ⟨r, hw, rfl, rfl⟩, ⟨by rw [ht]; exact hP, by rw [hAe]; exact hD⟩⟩, hS.F ht⟩) hS.2.2 dL_weight_18

set_option maxHeartbeats 4000000 in
set_option maxRecDepth 100000 in
theorem c_L_covers (l : Launch) (hl9 : l.stackTraces = false) (D : va_G) (ci ad : Nat → Nat) (aS : Nat) (kc : Nat → Int32) (kh : Nat → Int32) (ks : Nat → Int32) (fo : Nat → Nat → Int32) (kl : Nat → Int32) (kp : Nat → Int32) (dy : Int32) (mo : Int32) (n : Nat) (pa : Nat → Nat) (aE : Nat) (qp : Nat → Int32) (qm : Nat → Int32) (ql : Nat → Int32) (qv : Nat → Int32) (qc : Nat → Int32) (qe : Nat → Int32) (mt : Nat → Int32) (mv : Nat → Int32) (sw : Nat → Int32) (hv : Int32) (tk : Nat → Int32) (tn : Nat → Int32) (sc : Nat → Int32) (aO : Nat) (g : Nat → Int64) (p0 : Int32) (p1 : Int32) (hRn : pf_X2_covers kh fo n qp qm qv p0 p1 ≠ none) (hEx : ∀ c9, pf_X2_covers kh fo n qp qm qv p0 p1 = some (.inr c9) → c9 = 1) (sz : Nat) : Met l yL_covers wsL_covers ({ frames := 8, cells := 2, slots := 12, locals := 126 } : Room) (va_Pc [.ref (ad 0), .int p0, .int p1, .ref aO] (kv_preW D ci aS ((kv_kw ci ad kc kh ks fo kl kp dy mo n pa aE qp qm ql qv qc qe mt mv sw hv tk tn sc) ++ [((aO, .inl (ci 4, 1, .inr (.inl g))) : Nat × va_E)]) sz)) (va_Qi (fun (r : Int32) (u : (Nat → Int64)) => (∃ v : Int32, pf_X2_covers kh fo n qp qm qv p0 p1 = some (.inl v) ∧ r = 0 ∧ u = vp_updL g 0 v.toInt64) ∨ (pf_X2_covers kh fo n qp qm qv p0 p1 = some (.inr 1) ∧ r = 1 ∧ u = g)) (fun u t => kv_post D ((kv_kw ci ad kc kh ks fo kl kp dy mo n pa aE qp qm ql qv qc qe mt mv sw hv tk tn sc) ++ [((aO, .inl (ci 4, 1, .inr (.inl g))) : Nat × va_E)]) sz (kv_kw ci ad kc kh ks fo kl kp dy mo n pa aE qp qm ql qv qc qe mt mv sw hv tk tn sc ++ [((aO, .inl (ci 4, 1, .inr (.inl u))) : Nat × va_E)]) t) (va_A ((kv_kw ci ad kc kh ks fo kl kp dy mo n pa aE qp qm ql qv qc qe mt mv sw hv tk tn sc) ++ [((aO, .inl (ci 4, 1, .inr (.inl g))) : Nat × va_E)]) sz)) 2 12 (va_A ((kv_kw ci ad kc kh ks fo kl kp dy mo n pa aE qp qm ql qv qc qe mt mv sw hv tk tn sc) ++ [((aO, .inl (ci 4, 1, .inr (.inl g))) : Nat × va_E)]) sz) := by
  refine va_MetW (cc := cL_covers) (maxL := 5) (ret := (some .int)) (by decide) rfl ?_
  intro p en s m args below meth c s₁ B hml hv
  obtain ⟨hv0, ⟨⟨⟨hsz, hP, hK, hD0⟩, hT⟩, hT2⟩, hN⟩ := hv
  have hx := B.exec
  have hb := B.bytes
  have hr := B.returns
  have hts := atoms_spec (ws := wsL_covers) B.pre
  have hown : s.vm.findClass RL = some m.cls := findClass_of_methodNamed B.named
  have hlocks := B.notSynchronized
  subst hsz
  have hD := hD0.self (sz := s.heap.size)
  generalize hAe : va_A ((kv_kw ci ad kc kh ks fo kl kp dy mo n pa aE qp qm ql qv qc qe mt mv sw hv tk tn sc) ++ [((aO, .inl (ci 4, 1, .inr (.inl g))) : Nat × va_E)]) s.heap.size = A at hD hT hT2 ⊢
  have hA : ∀ q : Nat, s.heap.size ≤ q → A q := fun q h => by rw [← hAe]; exact Or.inr h
  have hS : va_S A s.heap s.heap [] := va_S.rf
  have htb : c.exceptionTable.toList = tableOf [(0, 10, 13, 13)] := vx_table (x := yL_covers) B (hts (.codeWith yL_covers cL_covers 5 (some .int) [(0, 10, 13, 13)]) (by decide +kernel))
  refine W.eq (show entryFrame m args 5 = _ from by rw [hv0, lg_entry_eq]) ?_
  have hl := lv_entry ([.ref (ad 0), .int p0, .int p1, .ref aO]) (n := 5) (Nat.le_of_ble_eq_true rfl)
  generalize (lg_sl ([.ref (ad 0), .int p0, .int p1, .ref aO]) ++ List.replicate (5 - (lg_sl ([.ref (ad 0), .int p0, .int p1, .ref aO])).length) Slot.unset).toArray = ls at hl ⊢
  have hl : lv_has ls 5 [(0, .ref (ad 0)), (1, .int p0), (2, .int p1), (3, .ref aO)] := hl
  generalize hRd : pf_X2_covers kh fo n qp qm qv p0 p1 = Rz at hRn hEx ⊢
  refine lv_aload_n hx hb dL_covers_0 rfl (lv_at hl 3 rfl) ?_
  refine lv_iconst (v := 0) hx hb dL_covers_1 (by decide) ?_
  refine lv_aload_n hx hb dL_covers_2 rfl (lv_at hl 0 rfl) ?_
  refine lv_iload_n hx hb dL_covers_3 rfl (lv_at hl 1 rfl) ?_
  refine lv_iload_n hx hb dL_covers_4 rfl (lv_at hl 2 rfl) ?_
  refine kv_xcalliF (vx_runV (As := [.int p0, .int p1]) (rest := [.int 0, .ref aO]) ⟨hx, hb, hml, hown, hts⟩ (c_X2_covers l hl9 D ci ad kc kh ks fo kl kp dy mo n pa aE qp qm ql qv qc qe mt mv sw hv tk tn sc p0 p1 (by rw [hRd]; exact hRn) s.heap.size) (cwV 2 hts gL_covers_X2_covers rfl rfl rfl (by decide +kernel) ⟨Nat.le_of_ble_eq_true rfl, Nat.le_of_ble_eq_true rfl⟩) (kv_preVX hK (kv_Pl hP) (kv_Dl hD) hT hS hA (r := (RX2, TX2, 9)) (q0 := 0) (k := 3) rfl rfl rfl) rfl rfl hl.1 rfl (lv_room (Nat.le_of_ble_eq_true rfl)) dL_covers_5 ⟨Nat.le_of_ble_eq_true rfl, Nat.le_of_ble_eq_true rfl⟩) hP hD hS hA (fun ce q9 u9 H locs hw hP hD hS h1 h2 h3 => ?_) (fun r u H locs hw hP hD hS => ?_)
  · rw [hRd] at hw
    rcases hEx _ hw with rfl
    · refine vx_catch (name := "java/lang/IndexOutOfBoundsException") hown ((tableOf [(0, 10, 13, 13)]).take 0) ((tableOf [(0, 10, 13, 13)]).getD 0 default) ((tableOf [(0, 10, 13, 13)]).drop 1) (by rw [htb]; rfl) (fun z hz => ?_) (by decide) (by decide) (hts (.classLink RL 13 "java/lang/IndexOutOfBoundsException") (by decide +kernel)) (va_Nw.use rfl (hT.2.2.2.1 1)) h1 h2 h3 ?_
      · exact absurd hz List.not_mem_nil
      · refine lv_astore (lv' := [(4, .ref q9), (0, .ref (ad 0)), (1, .int p0), (2, .int p1), (3, .ref aO)]) hx hb dL_covers_13 hl (by decide) rfl (fun ls hl => ?_)
        refine lv_iconst (v := 1) hx hb dL_covers_15 (by decide) ?_
        exact W.iret (v := 1) hx hb hr (fun t ht hW => ⟨⟨1, g, rfl, Or.inr (⟨hw, rfl, rfl⟩), ⟨by rw [ht]; exact hP, by rw [hAe]; exact hD⟩⟩, hS.F ht⟩) hS.2.2 dL_covers_16
  · rw [hRd] at hw
    have hP : va_P D vwCl ((kv_kw ci ad kc kh ks fo kl kp dy mo n pa aE qp qm ql qv qc qe mt mv sw hv tk tn sc) ++ [((aO, .inl (ci 4, 1, .inr (.inl g))) : Nat × va_E)]) H := hP
    have hD : va_D A ((kv_kw ci ad kc kh ks fo kl kp dy mo n pa aE qp qm ql qv qc qe mt mv sw hv tk tn sc) ++ [((aO, .inl (ci 4, 1, .inr (.inl g))) : Nat × va_E)]) := hD
    refine lv_i2l (v := r.toInt64) hx hb dL_covers_8 rfl ?_
    refine va_last hx hb hK hP hD hS (kv_kw ci ad kc kh ks fo kl kp dy mo n pa aE qp qm ql qv qc qe mt mv sw hv tk tn sc).length 4 kv_last rfl (by unfold vp_in; decide) dL_covers_9 (fun H locs hP hD hS => ?_)
    rw [kv_last_set] at hP hD
    refine lv_goto (tgt := 17) hx hb dL_covers_10 (by decide) ?_
    refine lv_iconst (v := 0) hx hb dL_covers_17 (by decide) ?_
    exact W.iret (v := 0) hx hb hr (fun t ht hW => ⟨⟨0, (vp_updL g 0 r.toInt64), rfl, Or.inl ⟨r, hw, rfl, rfl⟩, ⟨by rw [ht]; exact hP, by rw [hAe]; exact hD⟩⟩, hS.F ht⟩) hS.2.2 dL_covers_18

set_option maxHeartbeats 4000000 in
set_option maxRecDepth 100000 in
theorem c_L_gap (l : Launch) (hl9 : l.stackTraces = false) (D : va_G) (ci ad : Nat → Nat) (aS : Nat) (kc : Nat → Int32) (kh : Nat → Int32) (ks : Nat → Int32) (fo : Nat → Nat → Int32) (kl : Nat → Int32) (kp : Nat → Int32) (dy : Int32) (mo : Int32) (n : Nat) (pa : Nat → Nat) (aE : Nat) (qp : Nat → Int32) (qm : Nat → Int32) (ql : Nat → Int32) (qv : Nat → Int32) (qc : Nat → Int32) (qe : Nat → Int32) (mt : Nat → Int32) (mv : Nat → Int32) (sw : Nat → Int32) (hv : Int32) (tk : Nat → Int32) (tn : Nat → Int32) (sc : Nat → Int32) (aO : Nat) (g : Nat → Int64) (p0 : Int32) (hRn : pf_X2_gap kc kh fo kp n qp qm qv qc p0 mt mv sw hv tk ≠ none) (hEx : ∀ c9, pf_X2_gap kc kh fo kp n qp qm qv qc p0 mt mv sw hv tk = some (.inr c9) → c9 = 1) (sz : Nat) : Met l yL_gap wsL_gap ({ frames := 8, cells := 1, slots := 6, locals := 133 } : Room) (va_Pc [.ref (ad 0), .int p0, .ref aO] (kv_preW D ci aS ((kv_kw ci ad kc kh ks fo kl kp dy mo n pa aE qp qm ql qv qc qe mt mv sw hv tk tn sc) ++ [((aO, .inl (ci 4, 1, .inr (.inl g))) : Nat × va_E)]) sz)) (va_Qi (fun (r : Int32) (u : (Nat → Int32) × (Nat → Int32) × (Nat → Int32) × Int32 × (Nat → Int32) × (Nat → Int64)) => (∃ v : Int32, pf_X2_gap kc kh fo kp n qp qm qv qc p0 mt mv sw hv tk = some (.inl (v, u.1, u.2.1, u.2.2.1, u.2.2.2.1, u.2.2.2.2.1)) ∧ r = 0 ∧ u.2.2.2.2.2 = vp_updL g 0 v.toInt64) ∨ (pf_X2_gap kc kh fo kp n qp qm qv qc p0 mt mv sw hv tk = some (.inr 1) ∧ r = 1 ∧ u.1 = mt ∧ u.2.1 = mv ∧ u.2.2.1 = sw ∧ u.2.2.2.1 = hv ∧ u.2.2.2.2.1 = tk ∧ u.2.2.2.2.2 = g)) (fun u t => kv_post D ((kv_kw ci ad kc kh ks fo kl kp dy mo n pa aE qp qm ql qv qc qe mt mv sw hv tk tn sc) ++ [((aO, .inl (ci 4, 1, .inr (.inl g))) : Nat × va_E)]) sz (kv_kw ci ad kc kh ks fo kl kp dy mo n pa aE qp qm ql qv qc qe u.1 u.2.1 u.2.2.1 u.2.2.2.1 u.2.2.2.2.1 tn sc ++ [((aO, .inl (ci 4, 1, .inr (.inl u.2.2.2.2.2))) : Nat × va_E)]) t) (va_A ((kv_kw ci ad kc kh ks fo kl kp dy mo n pa aE qp qm ql qv qc qe mt mv sw hv tk tn sc) ++ [((aO, .inl (ci 4, 1, .inr (.inl g))) : Nat × va_E)]) sz)) 1 6 (va_A ((kv_kw ci ad kc kh ks fo kl kp dy mo n pa aE qp qm ql qv qc qe mt mv sw hv tk tn sc) ++ [((aO, .inl (ci 4, 1, .inr (.inl g))) : Nat × va_E)]) sz) := by
  refine va_MetW (cc := cL_gap) (maxL := 4) (ret := (some .int)) (by decide) rfl ?_
  intro p en s m args below meth c s₁ B hml hv
  obtain ⟨hv0, ⟨⟨⟨hsz, hP, hK, hD0⟩, hT⟩, hT2⟩, hN⟩ := hv
  have hx := B.exec
  have hb := B.bytes
  have hr := B.returns
  have hts := atoms_spec (ws := wsL_gap) B.pre
  have hown : s.vm.findClass RL = some m.cls := findClass_of_methodNamed B.named
  have hlocks := B.notSynchronized
  subst hsz
  have hD := hD0.self (sz := s.heap.size)
  generalize hAe : va_A ((kv_kw ci ad kc kh ks fo kl kp dy mo n pa aE qp qm ql qv qc qe mt mv sw hv tk tn sc) ++ [((aO, .inl (ci 4, 1, .inr (.inl g))) : Nat × va_E)]) s.heap.size = A at hD hT hT2 ⊢
  have hA : ∀ q : Nat, s.heap.size ≤ q → A q := fun q h => by rw [← hAe]; exact Or.inr h
  have hS : va_S A s.heap s.heap [] := va_S.rf
  have htb : c.exceptionTable.toList = tableOf [(0, 9, 12, 13)] := vx_table (x := yL_gap) B (hts (.codeWith yL_gap cL_gap 4 (some .int) [(0, 9, 12, 13)]) (by decide +kernel))
  refine W.eq (show entryFrame m args 4 = _ from by rw [hv0, lg_entry_eq]) ?_
  have hl := lv_entry ([.ref (ad 0), .int p0, .ref aO]) (n := 4) (Nat.le_of_ble_eq_true rfl)
  generalize (lg_sl ([.ref (ad 0), .int p0, .ref aO]) ++ List.replicate (4 - (lg_sl ([.ref (ad 0), .int p0, .ref aO])).length) Slot.unset).toArray = ls at hl ⊢
  have hl : lv_has ls 4 [(0, .ref (ad 0)), (1, .int p0), (2, .ref aO)] := hl
  generalize hRd : pf_X2_gap kc kh fo kp n qp qm qv qc p0 mt mv sw hv tk = Rz at hRn hEx ⊢
  refine lv_aload_n hx hb dL_gap_0 rfl (lv_at hl 2 rfl) ?_
  refine lv_iconst (v := 0) hx hb dL_gap_1 (by decide) ?_
  refine lv_aload_n hx hb dL_gap_2 rfl (lv_at hl 0 rfl) ?_
  refine lv_iload_n hx hb dL_gap_3 rfl (lv_at hl 1 rfl) ?_
  refine kv_xcalliF (vx_runV (As := [.int p0]) (rest := [.int 0, .ref aO]) ⟨hx, hb, hml, hown, hts⟩ (c_X2_gap l hl9 D ci ad kc kh ks fo kl kp dy mo n pa aE qp qm ql qv qc qe mt mv sw hv tk tn sc p0 (by rw [hRd]; exact hRn) s.heap.size) (cwV 1 hts gL_gap_X2_gap rfl rfl rfl (by decide +kernel) ⟨Nat.le_of_ble_eq_true rfl, Nat.le_of_ble_eq_true rfl⟩) (kv_preVX hK (kv_Pl hP) (kv_Dl hD) hT hS hA (r := (RX2, TX2, 9)) (q0 := 0) (k := 3) rfl rfl rfl) rfl rfl hl.1 rfl (lv_room (Nat.le_of_ble_eq_true rfl)) dL_gap_4 ⟨Nat.le_of_ble_eq_true rfl, Nat.le_of_ble_eq_true rfl⟩) hP hD hS hA (fun ce q9 u9 H locs hw hP hD hS h1 h2 h3 => ?_) (fun r u H locs hw hP hD hS => ?_)
  · rw [hRd] at hw
    rcases hEx _ hw with rfl
    · refine vx_catch (name := "java/lang/IndexOutOfBoundsException") hown ((tableOf [(0, 9, 12, 13)]).take 0) ((tableOf [(0, 9, 12, 13)]).getD 0 default) ((tableOf [(0, 9, 12, 13)]).drop 1) (by rw [htb]; rfl) (fun z hz => ?_) (by decide) (by decide) (hts (.classLink RL 13 "java/lang/IndexOutOfBoundsException") (by decide +kernel)) (va_Nw.use rfl (hT.2.2.2.1 1)) h1 h2 h3 ?_
      · exact absurd hz List.not_mem_nil
      · refine lv_astore_n (lv' := [(3, .ref q9), (0, .ref (ad 0)), (1, .int p0), (2, .ref aO)]) hx hb dL_gap_12 rfl hl (by decide) rfl (fun ls hl => ?_)
        refine lv_iconst (v := 1) hx hb dL_gap_13 (by decide) ?_
        exact W.iret (v := 1) hx hb hr (fun t ht hW => ⟨⟨1, (mt, mv, sw, hv, tk, g), rfl, Or.inr (⟨hw, rfl, rfl, rfl, rfl, rfl, rfl, rfl⟩), ⟨by rw [ht]; exact hP, by rw [hAe]; exact hD⟩⟩, hS.F ht⟩) hS.2.2 dL_gap_14
  · rw [hRd] at hw
    obtain ⟨o0, o1, o2, o3, o4⟩ := u
    have hP : va_P D vwCl ((kv_kw ci ad kc kh ks fo kl kp dy mo n pa aE qp qm ql qv qc qe o0 o1 o2 o3 o4 tn sc) ++ [((aO, .inl (ci 4, 1, .inr (.inl g))) : Nat × va_E)]) H := hP
    have hD : va_D A ((kv_kw ci ad kc kh ks fo kl kp dy mo n pa aE qp qm ql qv qc qe o0 o1 o2 o3 o4 tn sc) ++ [((aO, .inl (ci 4, 1, .inr (.inl g))) : Nat × va_E)]) := hD
    refine lv_i2l (v := r.toInt64) hx hb dL_gap_7 rfl ?_
    refine va_last hx hb hK hP hD hS (kv_kw ci ad kc kh ks fo kl kp dy mo n pa aE qp qm ql qv qc qe o0 o1 o2 o3 o4 tn sc).length 4 kv_last rfl (by unfold vp_in; decide) dL_gap_8 (fun H locs hP hD hS => ?_)
    rw [kv_last_set] at hP hD
    refine lv_goto (tgt := 15) hx hb dL_gap_9 (by decide) ?_
    refine lv_iconst (v := 0) hx hb dL_gap_15 (by decide) ?_
    exact W.iret (v := 0) hx hb hr (fun t ht hW => ⟨⟨0, (o0, o1, o2, o3, o4, (vp_updL g 0 r.toInt64)), rfl, Or.inl ⟨r, hw, rfl, rfl⟩, ⟨by rw [ht]; exact hP, by rw [hAe]; exact hD⟩⟩, hS.F ht⟩) hS.2.2 dL_gap_16

set_option maxHeartbeats 4000000 in
set_option maxRecDepth 100000 in
theorem c_L_uncovered (l : Launch) (hl9 : l.stackTraces = false) (D : va_G) (ci ad : Nat → Nat) (aS : Nat) (kc : Nat → Int32) (kh : Nat → Int32) (ks : Nat → Int32) (fo : Nat → Nat → Int32) (kl : Nat → Int32) (kp : Nat → Int32) (dy : Int32) (mo : Int32) (n : Nat) (pa : Nat → Nat) (aE : Nat) (qp : Nat → Int32) (qm : Nat → Int32) (ql : Nat → Int32) (qv : Nat → Int32) (qc : Nat → Int32) (qe : Nat → Int32) (mt : Nat → Int32) (mv : Nat → Int32) (sw : Nat → Int32) (hv : Int32) (tk : Nat → Int32) (tn : Nat → Int32) (sc : Nat → Int32) (aO : Nat) (g : Nat → Int64) (p0 : Int32) (hRn : pf_X2_uncovered kc kh fo kp n qp qm qv qc p0 mt mv sw hv tk ≠ none) (hEx : ∀ c9, pf_X2_uncovered kc kh fo kp n qp qm qv qc p0 mt mv sw hv tk = some (.inr c9) → c9 = 1) (sz : Nat) : Met l yL_uncovered wsL_uncovered ({ frames := 8, cells := 1, slots := 6, locals := 133 } : Room) (va_Pc [.ref (ad 0), .int p0, .ref aO] (kv_preW D ci aS ((kv_kw ci ad kc kh ks fo kl kp dy mo n pa aE qp qm ql qv qc qe mt mv sw hv tk tn sc) ++ [((aO, .inl (ci 4, 1, .inr (.inl g))) : Nat × va_E)]) sz)) (va_Qi (fun (r : Int32) (u : (Nat → Int32) × (Nat → Int32) × (Nat → Int32) × Int32 × (Nat → Int32) × (Nat → Int64)) => (∃ v : Int32, pf_X2_uncovered kc kh fo kp n qp qm qv qc p0 mt mv sw hv tk = some (.inl (v, u.1, u.2.1, u.2.2.1, u.2.2.2.1, u.2.2.2.2.1)) ∧ r = 0 ∧ u.2.2.2.2.2 = vp_updL g 0 v.toInt64) ∨ (pf_X2_uncovered kc kh fo kp n qp qm qv qc p0 mt mv sw hv tk = some (.inr 1) ∧ r = 1 ∧ u.1 = mt ∧ u.2.1 = mv ∧ u.2.2.1 = sw ∧ u.2.2.2.1 = hv ∧ u.2.2.2.2.1 = tk ∧ u.2.2.2.2.2 = g)) (fun u t => kv_post D ((kv_kw ci ad kc kh ks fo kl kp dy mo n pa aE qp qm ql qv qc qe mt mv sw hv tk tn sc) ++ [((aO, .inl (ci 4, 1, .inr (.inl g))) : Nat × va_E)]) sz (kv_kw ci ad kc kh ks fo kl kp dy mo n pa aE qp qm ql qv qc qe u.1 u.2.1 u.2.2.1 u.2.2.2.1 u.2.2.2.2.1 tn sc ++ [((aO, .inl (ci 4, 1, .inr (.inl u.2.2.2.2.2))) : Nat × va_E)]) t) (va_A ((kv_kw ci ad kc kh ks fo kl kp dy mo n pa aE qp qm ql qv qc qe mt mv sw hv tk tn sc) ++ [((aO, .inl (ci 4, 1, .inr (.inl g))) : Nat × va_E)]) sz)) 1 6 (va_A ((kv_kw ci ad kc kh ks fo kl kp dy mo n pa aE qp qm ql qv qc qe mt mv sw hv tk tn sc) ++ [((aO, .inl (ci 4, 1, .inr (.inl g))) : Nat × va_E)]) sz) := by
  refine va_MetW (cc := cL_uncovered) (maxL := 4) (ret := (some .int)) (by decide) rfl ?_
  intro p en s m args below meth c s₁ B hml hv
  obtain ⟨hv0, ⟨⟨⟨hsz, hP, hK, hD0⟩, hT⟩, hT2⟩, hN⟩ := hv
  have hx := B.exec
  have hb := B.bytes
  have hr := B.returns
  have hts := atoms_spec (ws := wsL_uncovered) B.pre
  have hown : s.vm.findClass RL = some m.cls := findClass_of_methodNamed B.named
  have hlocks := B.notSynchronized
  subst hsz
  have hD := hD0.self (sz := s.heap.size)
  generalize hAe : va_A ((kv_kw ci ad kc kh ks fo kl kp dy mo n pa aE qp qm ql qv qc qe mt mv sw hv tk tn sc) ++ [((aO, .inl (ci 4, 1, .inr (.inl g))) : Nat × va_E)]) s.heap.size = A at hD hT hT2 ⊢
  have hA : ∀ q : Nat, s.heap.size ≤ q → A q := fun q h => by rw [← hAe]; exact Or.inr h
  have hS : va_S A s.heap s.heap [] := va_S.rf
  have htb : c.exceptionTable.toList = tableOf [(0, 9, 12, 13)] := vx_table (x := yL_uncovered) B (hts (.codeWith yL_uncovered cL_uncovered 4 (some .int) [(0, 9, 12, 13)]) (by decide +kernel))
  refine W.eq (show entryFrame m args 4 = _ from by rw [hv0, lg_entry_eq]) ?_
  have hl := lv_entry ([.ref (ad 0), .int p0, .ref aO]) (n := 4) (Nat.le_of_ble_eq_true rfl)
  generalize (lg_sl ([.ref (ad 0), .int p0, .ref aO]) ++ List.replicate (4 - (lg_sl ([.ref (ad 0), .int p0, .ref aO])).length) Slot.unset).toArray = ls at hl ⊢
  have hl : lv_has ls 4 [(0, .ref (ad 0)), (1, .int p0), (2, .ref aO)] := hl
  generalize hRd : pf_X2_uncovered kc kh fo kp n qp qm qv qc p0 mt mv sw hv tk = Rz at hRn hEx ⊢
  refine lv_aload_n hx hb dL_uncovered_0 rfl (lv_at hl 2 rfl) ?_
  refine lv_iconst (v := 0) hx hb dL_uncovered_1 (by decide) ?_
  refine lv_aload_n hx hb dL_uncovered_2 rfl (lv_at hl 0 rfl) ?_
  refine lv_iload_n hx hb dL_uncovered_3 rfl (lv_at hl 1 rfl) ?_
  refine kv_xcalliF (vx_runV (As := [.int p0]) (rest := [.int 0, .ref aO]) ⟨hx, hb, hml, hown, hts⟩ (c_X2_uncovered l hl9 D ci ad kc kh ks fo kl kp dy mo n pa aE qp qm ql qv qc qe mt mv sw hv tk tn sc p0 (by rw [hRd]; exact hRn) s.heap.size) (cwV 1 hts gL_uncovered_X2_uncovered rfl rfl rfl (by decide +kernel) ⟨Nat.le_of_ble_eq_true rfl, Nat.le_of_ble_eq_true rfl⟩) (kv_preVX hK (kv_Pl hP) (kv_Dl hD) hT hS hA (r := (RX2, TX2, 9)) (q0 := 0) (k := 3) rfl rfl rfl) rfl rfl hl.1 rfl (lv_room (Nat.le_of_ble_eq_true rfl)) dL_uncovered_4 ⟨Nat.le_of_ble_eq_true rfl, Nat.le_of_ble_eq_true rfl⟩) hP hD hS hA (fun ce q9 u9 H locs hw hP hD hS h1 h2 h3 => ?_) (fun r u H locs hw hP hD hS => ?_)
  · rw [hRd] at hw
    rcases hEx _ hw with rfl
    · refine vx_catch (name := "java/lang/IndexOutOfBoundsException") hown ((tableOf [(0, 9, 12, 13)]).take 0) ((tableOf [(0, 9, 12, 13)]).getD 0 default) ((tableOf [(0, 9, 12, 13)]).drop 1) (by rw [htb]; rfl) (fun z hz => ?_) (by decide) (by decide) (hts (.classLink RL 13 "java/lang/IndexOutOfBoundsException") (by decide +kernel)) (va_Nw.use rfl (hT.2.2.2.1 1)) h1 h2 h3 ?_
      · exact absurd hz List.not_mem_nil
      · refine lv_astore_n (lv' := [(3, .ref q9), (0, .ref (ad 0)), (1, .int p0), (2, .ref aO)]) hx hb dL_uncovered_12 rfl hl (by decide) rfl (fun ls hl => ?_)
        refine lv_iconst (v := 1) hx hb dL_uncovered_13 (by decide) ?_
        exact W.iret (v := 1) hx hb hr (fun t ht hW => ⟨⟨1, (mt, mv, sw, hv, tk, g), rfl, Or.inr (⟨hw, rfl, rfl, rfl, rfl, rfl, rfl, rfl⟩), ⟨by rw [ht]; exact hP, by rw [hAe]; exact hD⟩⟩, hS.F ht⟩) hS.2.2 dL_uncovered_14
  · rw [hRd] at hw
    obtain ⟨o0, o1, o2, o3, o4⟩ := u
    have hP : va_P D vwCl ((kv_kw ci ad kc kh ks fo kl kp dy mo n pa aE qp qm ql qv qc qe o0 o1 o2 o3 o4 tn sc) ++ [((aO, .inl (ci 4, 1, .inr (.inl g))) : Nat × va_E)]) H := hP
    have hD : va_D A ((kv_kw ci ad kc kh ks fo kl kp dy mo n pa aE qp qm ql qv qc qe o0 o1 o2 o3 o4 tn sc) ++ [((aO, .inl (ci 4, 1, .inr (.inl g))) : Nat × va_E)]) := hD
    refine lv_i2l (v := r.toInt64) hx hb dL_uncovered_7 rfl ?_
    refine va_last hx hb hK hP hD hS (kv_kw ci ad kc kh ks fo kl kp dy mo n pa aE qp qm ql qv qc qe o0 o1 o2 o3 o4 tn sc).length 4 kv_last rfl (by unfold vp_in; decide) dL_uncovered_8 (fun H locs hP hD hS => ?_)
    rw [kv_last_set] at hP hD
    refine lv_goto (tgt := 15) hx hb dL_uncovered_9 (by decide) ?_
    refine lv_iconst (v := 0) hx hb dL_uncovered_15 (by decide) ?_
    exact W.iret (v := 0) hx hb hr (fun t ht hW => ⟨⟨0, (o0, o1, o2, o3, o4, (vp_updL g 0 r.toInt64)), rfl, Or.inl ⟨r, hw, rfl, rfl⟩, ⟨by rw [ht]; exact hP, by rw [hAe]; exact hD⟩⟩, hS.F ht⟩) hS.2.2 dL_uncovered_16

set_option maxHeartbeats 4000000 in
set_option maxRecDepth 100000 in
theorem c_L_gapByAll (l : Launch) (hl9 : l.stackTraces = false) (D : va_G) (ci ad : Nat → Nat) (aS : Nat) (kc : Nat → Int32) (kh : Nat → Int32) (ks : Nat → Int32) (fo : Nat → Nat → Int32) (kl : Nat → Int32) (kp : Nat → Int32) (dy : Int32) (mo : Int32) (n : Nat) (pa : Nat → Nat) (aE : Nat) (qp : Nat → Int32) (qm : Nat → Int32) (ql : Nat → Int32) (qv : Nat → Int32) (qc : Nat → Int32) (qe : Nat → Int32) (mt : Nat → Int32) (mv : Nat → Int32) (sw : Nat → Int32) (hv : Int32) (tk : Nat → Int32) (tn : Nat → Int32) (sc : Nat → Int32) (aO : Nat) (g : Nat → Int64) (p0 : Int32) (hRn : pf_X2_gapByAll kc kh fo kp n qp qm qv qc p0 mt mv sw hv tk tn sc ≠ none) (hEx : ∀ c9, pf_X2_gapByAll kc kh fo kp n qp qm qv qc p0 mt mv sw hv tk tn sc = some (.inr c9) → c9 = 1 ∨ c9 = 3) (sz : Nat) : Met l yL_gapByAll wsL_gapByAll ({ frames := 8, cells := 2, slots := 12, locals := 129 } : Room) (va_Pc [.ref (ad 0), .int p0, .ref aO] (kv_preW D ci aS ((kv_kw ci ad kc kh ks fo kl kp dy mo n pa aE qp qm ql qv qc qe mt mv sw hv tk tn sc) ++ [((aO, .inl (ci 4, 1, .inr (.inl g))) : Nat × va_E)]) sz)) (va_Qi (fun (r : Int32) (u : (Nat → Int32) × (Nat → Int32) × (Nat → Int32) × Int32 × (Nat → Int32) × (Nat → Int32) × (Nat → Int32) × (Nat → Int64)) => (∃ v : Int32, pf_X2_gapByAll kc kh fo kp n qp qm qv qc p0 mt mv sw hv tk tn sc = some (.inl (v, u.1, u.2.1, u.2.2.1, u.2.2.2.1, u.2.2.2.2.1, u.2.2.2.2.2.1, u.2.2.2.2.2.2.1)) ∧ r = 0 ∧ u.2.2.2.2.2.2.2 = vp_updL g 0 v.toInt64) ∨ (pf_X2_gapByAll kc kh fo kp n qp qm qv qc p0 mt mv sw hv tk tn sc = some (.inr 1) ∧ r = 1 ∧ u.1 = mt ∧ u.2.1 = mv ∧ u.2.2.1 = sw ∧ u.2.2.2.1 = hv ∧ u.2.2.2.2.1 = tk ∧ u.2.2.2.2.2.1 = tn ∧ u.2.2.2.2.2.2.1 = sc ∧ u.2.2.2.2.2.2.2 = g) ∨ (pf_X2_gapByAll kc kh fo kp n qp qm qv qc p0 mt mv sw hv tk tn sc = some (.inr 3) ∧ r = 2 ∧ u.1 = mt ∧ u.2.1 = mv ∧ u.2.2.1 = sw ∧ u.2.2.2.1 = hv ∧ u.2.2.2.2.1 = tk ∧ u.2.2.2.2.2.1 = tn ∧ u.2.2.2.2.2.2.1 = sc ∧ u.2.2.2.2.2.2.2 = g)) (fun u t => kv_post D ((kv_kw ci ad kc kh ks fo kl kp dy mo n pa aE qp qm ql qv qc qe mt mv sw hv tk tn sc) ++ [((aO, .inl (ci 4, 1, .inr (.inl g))) : Nat × va_E)]) sz (kv_kw ci ad kc kh ks fo kl kp dy mo n pa aE qp qm ql qv qc qe u.1 u.2.1 u.2.2.1 u.2.2.2.1 u.2.2.2.2.1 u.2.2.2.2.2.1 u.2.2.2.2.2.2.1 ++ [((aO, .inl (ci 4, 1, .inr (.inl u.2.2.2.2.2.2.2))) : Nat × va_E)]) t) (va_A ((kv_kw ci ad kc kh ks fo kl kp dy mo n pa aE qp qm ql qv qc qe mt mv sw hv tk tn sc) ++ [((aO, .inl (ci 4, 1, .inr (.inl g))) : Nat × va_E)]) sz)) 2 12 (va_A ((kv_kw ci ad kc kh ks fo kl kp dy mo n pa aE qp qm ql qv qc qe mt mv sw hv tk tn sc) ++ [((aO, .inl (ci 4, 1, .inr (.inl g))) : Nat × va_E)]) sz) := by
  refine va_MetW (cc := cL_gapByAll) (maxL := 4) (ret := (some .int)) (by decide) rfl ?_
  intro p en s m args below meth c s₁ B hml hv
  obtain ⟨hv0, ⟨⟨⟨hsz, hP, hK, hD0⟩, hT⟩, hT2⟩, hN⟩ := hv
  have hx := B.exec
  have hb := B.bytes
  have hr := B.returns
  have hts := atoms_spec (ws := wsL_gapByAll) B.pre
  have hown : s.vm.findClass RL = some m.cls := findClass_of_methodNamed B.named
  have hlocks := B.notSynchronized
  subst hsz
  have hD := hD0.self (sz := s.heap.size)
  generalize hAe : va_A ((kv_kw ci ad kc kh ks fo kl kp dy mo n pa aE qp qm ql qv qc qe mt mv sw hv tk tn sc) ++ [((aO, .inl (ci 4, 1, .inr (.inl g))) : Nat × va_E)]) s.heap.size = A at hD hT hT2 ⊢
  have hA : ∀ q : Nat, s.heap.size ≤ q → A q := fun q h => by rw [← hAe]; exact Or.inr h
  have hS : va_S A s.heap s.heap [] := va_S.rf
  have htb : c.exceptionTable.toList = tableOf [(0, 9, 12, 13), (0, 9, 15, 20)] := vx_table (x := yL_gapByAll) B (hts (.codeWith yL_gapByAll cL_gapByAll 4 (some .int) [(0, 9, 12, 13), (0, 9, 15, 20)]) (by decide +kernel))
  refine W.eq (show entryFrame m args 4 = _ from by rw [hv0, lg_entry_eq]) ?_
  have hl := lv_entry ([.ref (ad 0), .int p0, .ref aO]) (n := 4) (Nat.le_of_ble_eq_true rfl)
  generalize (lg_sl ([.ref (ad 0), .int p0, .ref aO]) ++ List.replicate (4 - (lg_sl ([.ref (ad 0), .int p0, .ref aO])).length) Slot.unset).toArray = ls at hl ⊢
  have hl : lv_has ls 4 [(0, .ref (ad 0)), (1, .int p0), (2, .ref aO)] := hl
  generalize hRd : pf_X2_gapByAll kc kh fo kp n qp qm qv qc p0 mt mv sw hv tk tn sc = Rz at hRn hEx ⊢
  refine lv_aload_n hx hb dL_gapByAll_0 rfl (lv_at hl 2 rfl) ?_
  refine lv_iconst (v := 0) hx hb dL_gapByAll_1 (by decide) ?_
  refine lv_aload_n hx hb dL_gapByAll_2 rfl (lv_at hl 0 rfl) ?_
  refine lv_iload_n hx hb dL_gapByAll_3 rfl (lv_at hl 1 rfl) ?_
  refine kv_xcalliF (vx_runV (As := [.int p0]) (rest := [.int 0, .ref aO]) ⟨hx, hb, hml, hown, hts⟩ (c_X2_gapByAll l hl9 D ci ad kc kh ks fo kl kp dy mo n pa aE qp qm ql qv qc qe mt mv sw hv tk tn sc p0 (by rw [hRd]; exact hRn) s.heap.size) (cwV 1 hts gL_gapByAll_X2_gapByAll rfl rfl rfl (by decide +kernel) ⟨Nat.le_of_ble_eq_true rfl, Nat.le_of_ble_eq_true rfl⟩) (kv_preVX hK (kv_Pl hP) (kv_Dl hD) hT hS hA (r := (RX2, TX2, 9)) (q0 := 0) (k := 3) rfl rfl rfl) rfl rfl hl.1 rfl (lv_room (Nat.le_of_ble_eq_true rfl)) dL_gapByAll_4 ⟨Nat.le_of_ble_eq_true rfl, Nat.le_of_ble_eq_true rfl⟩) hP hD hS hA (fun ce q9 u9 H locs hw hP hD hS h1 h2 h3 => ?_) (fun r u H locs hw hP hD hS => ?_)
  · rw [hRd] at hw
    rcases hEx _ hw with rfl | rfl
    · refine vx_catch (name := "java/lang/IndexOutOfBoundsException") hown ((tableOf [(0, 9, 12, 13), (0, 9, 15, 20)]).take 0) ((tableOf [(0, 9, 12, 13), (0, 9, 15, 20)]).getD 0 default) ((tableOf [(0, 9, 12, 13), (0, 9, 15, 20)]).drop 1) (by rw [htb]; rfl) (fun z hz => ?_) (by decide) (by decide) (hts (.classLink RL 13 "java/lang/IndexOutOfBoundsException") (by decide +kernel)) (va_Nw.use rfl (hT.2.2.2.1 1)) h1 h2 h3 ?_
      · exact absurd hz List.not_mem_nil
      · refine lv_astore_n (lv' := [(3, .ref q9), (0, .ref (ad 0)), (1, .int p0), (2, .ref aO)]) hx hb dL_gapByAll_12 rfl hl (by decide) rfl (fun ls hl => ?_)
        refine lv_iconst (v := 1) hx hb dL_gapByAll_13 (by decide) ?_
        exact W.iret (v := 1) hx hb hr (fun t ht hW => ⟨⟨1, (mt, mv, sw, hv, tk, tn, sc, g), rfl, Or.inr (Or.inl ⟨hw, rfl, rfl, rfl, rfl, rfl, rfl, rfl, rfl, rfl⟩), ⟨by rw [ht]; exact hP, by rw [hAe]; exact hD⟩⟩, hS.F ht⟩) hS.2.2 dL_gapByAll_14
    · refine vx_catch (name := "java/lang/IllegalStateException") hown ((tableOf [(0, 9, 12, 13), (0, 9, 15, 20)]).take 1) ((tableOf [(0, 9, 12, 13), (0, 9, 15, 20)]).getD 1 default) ((tableOf [(0, 9, 12, 13), (0, 9, 15, 20)]).drop 2) (by rw [htb]; rfl) (fun z hz => ?_) (by decide) (by decide) (hts (.classLink RL 20 "java/lang/IllegalStateException") (by decide +kernel)) (va_Nw.use rfl (hT.2.2.2.1 3)) h1 h2 h3 ?_
      · obtain rfl : z = (tableOf [(0, 9, 12, 13), (0, 9, 15, 20)]).getD 0 default := List.mem_singleton.mp hz
        exact Or.inr ⟨by decide, "java/lang/IndexOutOfBoundsException", hts (.classLink RL 13 "java/lang/IndexOutOfBoundsException") (by decide +kernel), hN 3 1 (by decide) (by decide) (by decide) (by decide) (by decide)⟩
      · refine lv_astore_n (lv' := [(3, .ref q9), (0, .ref (ad 0)), (1, .int p0), (2, .ref aO)]) hx hb dL_gapByAll_15 rfl hl (by decide) rfl (fun ls hl => ?_)
        refine lv_iconst (v := 2) hx hb dL_gapByAll_16 (by decide) ?_
        exact W.iret (v := 2) hx hb hr (fun t ht hW => ⟨⟨2, (mt, mv, sw, hv, tk, tn, sc, g), rfl, Or.inr (Or.inr (⟨hw, rfl, rfl, rfl, rfl, rfl, rfl, rfl, rfl, rfl⟩)), ⟨by rw [ht]; exact hP, by rw [hAe]; exact hD⟩⟩, hS.F ht⟩) hS.2.2 dL_gapByAll_17
  · rw [hRd] at hw
    obtain ⟨o0, o1, o2, o3, o4, o5, o6⟩ := u
    have hP : va_P D vwCl ((kv_kw ci ad kc kh ks fo kl kp dy mo n pa aE qp qm ql qv qc qe o0 o1 o2 o3 o4 o5 o6) ++ [((aO, .inl (ci 4, 1, .inr (.inl g))) : Nat × va_E)]) H := hP
    have hD : va_D A ((kv_kw ci ad kc kh ks fo kl kp dy mo n pa aE qp qm ql qv qc qe o0 o1 o2 o3 o4 o5 o6) ++ [((aO, .inl (ci 4, 1, .inr (.inl g))) : Nat × va_E)]) := hD
    refine lv_i2l (v := r.toInt64) hx hb dL_gapByAll_7 rfl ?_
    refine va_last hx hb hK hP hD hS (kv_kw ci ad kc kh ks fo kl kp dy mo n pa aE qp qm ql qv qc qe o0 o1 o2 o3 o4 o5 o6).length 4 kv_last rfl (by unfold vp_in; decide) dL_gapByAll_8 (fun H locs hP hD hS => ?_)
    rw [kv_last_set] at hP hD
    refine lv_goto (tgt := 18) hx hb dL_gapByAll_9 (by decide) ?_
    refine lv_iconst (v := 0) hx hb dL_gapByAll_18 (by decide) ?_
    exact W.iret (v := 0) hx hb hr (fun t ht hW => ⟨⟨0, (o0, o1, o2, o3, o4, o5, o6, (vp_updL g 0 r.toInt64)), rfl, Or.inl ⟨r, hw, rfl, rfl⟩, ⟨by rw [ht]; exact hP, by rw [hAe]; exact hD⟩⟩, hS.F ht⟩) hS.2.2 dL_gapByAll_19

set_option maxHeartbeats 4000000 in
set_option maxRecDepth 100000 in
theorem c_L_gapIf (l : Launch) (hl9 : l.stackTraces = false) (D : va_G) (ci ad : Nat → Nat) (aS : Nat) (kc : Nat → Int32) (kh : Nat → Int32) (ks : Nat → Int32) (fo : Nat → Nat → Int32) (kl : Nat → Int32) (kp : Nat → Int32) (dy : Int32) (mo : Int32) (n : Nat) (pa : Nat → Nat) (aE : Nat) (qp : Nat → Int32) (qm : Nat → Int32) (ql : Nat → Int32) (qv : Nat → Int32) (qc : Nat → Int32) (qe : Nat → Int32) (mt : Nat → Int32) (mv : Nat → Int32) (sw : Nat → Int32) (hv : Int32) (tk : Nat → Int32) (tn : Nat → Int32) (sc : Nat → Int32) (aO : Nat) (g : Nat → Int64) (p0 : Int32) (p1 : Int32) (p2 : Int32) (hRn : pf_X2_gapIf kc kh fo kp n qp qm qv qc p0 p1 p2 ks mt mv sw hv tk ≠ none) (hEx : ∀ c9, pf_X2_gapIf kc kh fo kp n qp qm qv qc p0 p1 p2 ks mt mv sw hv tk = some (.inr c9) → c9 = 1 ∨ c9 = 2 ∨ c9 = 3) (sz : Nat) : Met l yL_gapIf wsL_gapIf ({ frames := 9, cells := 4, slots := 24, locals := 147 } : Room) (va_Pc [.ref (ad 0), .int p0, .int p1, .int p2, .ref aO] (kv_preW D ci aS ((kv_kw ci ad kc kh ks fo kl kp dy mo n pa aE qp qm ql qv qc qe mt mv sw hv tk tn sc) ++ [((aO, .inl (ci 4, 1, .inr (.inl g))) : Nat × va_E)]) sz)) (va_Qi (fun (r : Int32) (u : (Nat → Int32) × (Nat → Int32) × (Nat → Int32) × (Nat → Int32) × Int32 × (Nat → Int32) × (Nat → Int64)) => (∃ v : Int32, pf_X2_gapIf kc kh fo kp n qp qm qv qc p0 p1 p2 ks mt mv sw hv tk = some (.inl (v, u.1, u.2.1, u.2.2.1, u.2.2.2.1, u.2.2.2.2.1, u.2.2.2.2.2.1)) ∧ r = 0 ∧ u.2.2.2.2.2.2 = vp_updL g 0 v.toInt64) ∨ (pf_X2_gapIf kc kh fo kp n qp qm qv qc p0 p1 p2 ks mt mv sw hv tk = some (.inr 1) ∧ r = 1 ∧ u.1 = ks ∧ u.2.1 = mt ∧ u.2.2.1 = mv ∧ u.2.2.2.1 = sw ∧ u.2.2.2.2.1 = hv ∧ u.2.2.2.2.2.1 = tk ∧ u.2.2.2.2.2.2 = g) ∨ (pf_X2_gapIf kc kh fo kp n qp qm qv qc p0 p1 p2 ks mt mv sw hv tk = some (.inr 2) ∧ r = 2 ∧ u.1 = ks ∧ u.2.1 = mt ∧ u.2.2.1 = mv ∧ u.2.2.2.1 = sw ∧ u.2.2.2.2.1 = hv ∧ u.2.2.2.2.2.1 = tk ∧ u.2.2.2.2.2.2 = g) ∨ (pf_X2_gapIf kc kh fo kp n qp qm qv qc p0 p1 p2 ks mt mv sw hv tk = some (.inr 3) ∧ r = 3 ∧ u.1 = ks ∧ u.2.1 = mt ∧ u.2.2.1 = mv ∧ u.2.2.2.1 = sw ∧ u.2.2.2.2.1 = hv ∧ u.2.2.2.2.2.1 = tk ∧ u.2.2.2.2.2.2 = g)) (fun u t => kv_post D ((kv_kw ci ad kc kh ks fo kl kp dy mo n pa aE qp qm ql qv qc qe mt mv sw hv tk tn sc) ++ [((aO, .inl (ci 4, 1, .inr (.inl g))) : Nat × va_E)]) sz (kv_kw ci ad kc kh u.1 fo kl kp dy mo n pa aE qp qm ql qv qc qe u.2.1 u.2.2.1 u.2.2.2.1 u.2.2.2.2.1 u.2.2.2.2.2.1 tn sc ++ [((aO, .inl (ci 4, 1, .inr (.inl u.2.2.2.2.2.2))) : Nat × va_E)]) t) (va_A ((kv_kw ci ad kc kh ks fo kl kp dy mo n pa aE qp qm ql qv qc qe mt mv sw hv tk tn sc) ++ [((aO, .inl (ci 4, 1, .inr (.inl g))) : Nat × va_E)]) sz)) 4 24 (va_A ((kv_kw ci ad kc kh ks fo kl kp dy mo n pa aE qp qm ql qv qc qe mt mv sw hv tk tn sc) ++ [((aO, .inl (ci 4, 1, .inr (.inl g))) : Nat × va_E)]) sz) := by
  refine va_MetW (cc := cL_gapIf) (maxL := 6) (ret := (some .int)) (by decide) rfl ?_
  intro p en s m args below meth c s₁ B hml hv
  obtain ⟨hv0, ⟨⟨⟨hsz, hP, hK, hD0⟩, hT⟩, hT2⟩, hN⟩ := hv
  have hx := B.exec
  have hb := B.bytes
  have hr := B.returns
  have hts := atoms_spec (ws := wsL_gapIf) B.pre
  have hown : s.vm.findClass RL = some m.cls := findClass_of_methodNamed B.named
  have hlocks := B.notSynchronized
  subst hsz
  have hD := hD0.self (sz := s.heap.size)
  generalize hAe : va_A ((kv_kw ci ad kc kh ks fo kl kp dy mo n pa aE qp qm ql qv qc qe mt mv sw hv tk tn sc) ++ [((aO, .inl (ci 4, 1, .inr (.inl g))) : Nat × va_E)]) s.heap.size = A at hD hT hT2 ⊢
  have hA : ∀ q : Nat, s.heap.size ≤ q → A q := fun q h => by rw [← hAe]; exact Or.inr h
  have hS : va_S A s.heap s.heap [] := va_S.rf
  have htb : c.exceptionTable.toList = tableOf [(0, 12, 15, 13), (0, 12, 19, 15), (0, 12, 23, 20)] := vx_table (x := yL_gapIf) B (hts (.codeWith yL_gapIf cL_gapIf 6 (some .int) [(0, 12, 15, 13), (0, 12, 19, 15), (0, 12, 23, 20)]) (by decide +kernel))
  refine W.eq (show entryFrame m args 6 = _ from by rw [hv0, lg_entry_eq]) ?_
  have hl := lv_entry ([.ref (ad 0), .int p0, .int p1, .int p2, .ref aO]) (n := 6) (Nat.le_of_ble_eq_true rfl)
  generalize (lg_sl ([.ref (ad 0), .int p0, .int p1, .int p2, .ref aO]) ++ List.replicate (6 - (lg_sl ([.ref (ad 0), .int p0, .int p1, .int p2, .ref aO])).length) Slot.unset).toArray = ls at hl ⊢
  have hl : lv_has ls 6 [(0, .ref (ad 0)), (1, .int p0), (2, .int p1), (3, .int p2), (4, .ref aO)] := hl
  generalize hRd : pf_X2_gapIf kc kh fo kp n qp qm qv qc p0 p1 p2 ks mt mv sw hv tk = Rz at hRn hEx ⊢
  refine lv_aload hx hb dL_gapIf_0 (lv_at hl 4 rfl) ?_
  refine lv_iconst (v := 0) hx hb dL_gapIf_2 (by decide) ?_
  refine lv_aload_n hx hb dL_gapIf_3 rfl (lv_at hl 0 rfl) ?_
  refine lv_iload_n hx hb dL_gapIf_4 rfl (lv_at hl 1 rfl) ?_
  refine lv_iload_n hx hb dL_gapIf_5 rfl (lv_at hl 2 rfl) ?_
  refine lv_iload_n hx hb dL_gapIf_6 rfl (lv_at hl 3 rfl) ?_
  refine kv_xcalliF (vx_runV (As := [.int p0, .int p1, .int p2]) (rest := [.int 0, .ref aO]) ⟨hx, hb, hml, hown, hts⟩ (c_X2_gapIf l hl9 D ci ad kc kh ks fo kl kp dy mo n pa aE qp qm ql qv qc qe mt mv sw hv tk tn sc p0 p1 p2 (by rw [hRd]; exact hRn) s.heap.size) (cwV 3 hts gL_gapIf_X2_gapIf rfl rfl rfl (by decide +kernel) ⟨Nat.le_of_ble_eq_true rfl, Nat.le_of_ble_eq_true rfl⟩) (kv_preVX hK (kv_Pl hP) (kv_Dl hD) hT hS hA (r := (RX2, TX2, 9)) (q0 := 0) (k := 3) rfl rfl rfl) rfl rfl hl.1 rfl (lv_room (Nat.le_of_ble_eq_true rfl)) dL_gapIf_7 ⟨Nat.le_of_ble_eq_true rfl, Nat.le_of_ble_eq_true rfl⟩) hP hD hS hA (fun ce q9 u9 H locs hw hP hD hS h1 h2 h3 => ?_) (fun r u H locs hw hP hD hS => ?_)
  · rw [hRd] at hw
    rcases hEx _ hw with rfl | rfl | rfl
    · refine vx_catch (name := "java/lang/IndexOutOfBoundsException") hown ((tableOf [(0, 12, 15, 13), (0, 12, 19, 15), (0, 12, 23, 20)]).take 0) ((tableOf [(0, 12, 15, 13), (0, 12, 19, 15), (0, 12, 23, 20)]).getD 0 default) ((tableOf [(0, 12, 15, 13), (0, 12, 19, 15), (0, 12, 23, 20)]).drop 1) (by rw [htb]; rfl) (fun z hz => ?_) (by decide) (by decide) (hts (.classLink RL 13 "java/lang/IndexOutOfBoundsException") (by decide +kernel)) (va_Nw.use rfl (hT.2.2.2.1 1)) h1 h2 h3 ?_
      · exact absurd hz List.not_mem_nil
      · refine lv_astore (lv' := [(5, .ref q9), (0, .ref (ad 0)), (1, .int p0), (2, .int p1), (3, .int p2), (4, .ref aO)]) hx hb dL_gapIf_15 hl (by decide) rfl (fun ls hl => ?_)
        refine lv_iconst (v := 1) hx hb dL_gapIf_17 (by decide) ?_
        exact W.iret (v := 1) hx hb hr (fun t ht hW => ⟨⟨1, (ks, mt, mv, sw, hv, tk, g), rfl, Or.inr (Or.inl ⟨hw, rfl, rfl, rfl, rfl, rfl, rfl, rfl, rfl⟩), ⟨by rw [ht]; exact hP, by rw [hAe]; exact hD⟩⟩, hS.F ht⟩) hS.2.2 dL_gapIf_18
    · refine vx_catch (name := "java/lang/IllegalArgumentException") hown ((tableOf [(0, 12, 15, 13), (0, 12, 19, 15), (0, 12, 23, 20)]).take 1) ((tableOf [(0, 12, 15, 13), (0, 12, 19, 15), (0, 12, 23, 20)]).getD 1 default) ((tableOf [(0, 12, 15, 13), (0, 12, 19, 15), (0, 12, 23, 20)]).drop 2) (by rw [htb]; rfl) (fun z hz => ?_) (by decide) (by decide) (hts (.classLink RL 15 "java/lang/IllegalArgumentException") (by decide +kernel)) (va_Nw.use rfl (hT.2.2.2.1 2)) h1 h2 h3 ?_
      · obtain rfl : z = (tableOf [(0, 12, 15, 13), (0, 12, 19, 15), (0, 12, 23, 20)]).getD 0 default := List.mem_singleton.mp hz
        exact Or.inr ⟨by decide, "java/lang/IndexOutOfBoundsException", hts (.classLink RL 13 "java/lang/IndexOutOfBoundsException") (by decide +kernel), hN 2 1 (by decide) (by decide) (by decide) (by decide) (by decide)⟩
      · refine lv_astore (lv' := [(5, .ref q9), (0, .ref (ad 0)), (1, .int p0), (2, .int p1), (3, .int p2), (4, .ref aO)]) hx hb dL_gapIf_19 hl (by decide) rfl (fun ls hl => ?_)
        refine lv_iconst (v := 2) hx hb dL_gapIf_21 (by decide) ?_
        exact W.iret (v := 2) hx hb hr (fun t ht hW => ⟨⟨2, (ks, mt, mv, sw, hv, tk, g), rfl, Or.inr (Or.inr (Or.inl ⟨hw, rfl, rfl, rfl, rfl, rfl, rfl, rfl, rfl⟩)), ⟨by rw [ht]; exact hP, by rw [hAe]; exact hD⟩⟩, hS.F ht⟩) hS.2.2 dL_gapIf_22
    · refine vx_catch (name := "java/lang/IllegalStateException") hown ((tableOf [(0, 12, 15, 13), (0, 12, 19, 15), (0, 12, 23, 20)]).take 2) ((tableOf [(0, 12, 15, 13), (0, 12, 19, 15), (0, 12, 23, 20)]).getD 2 default) ((tableOf [(0, 12, 15, 13), (0, 12, 19, 15), (0, 12, 23, 20)]).drop 3) (by rw [htb]; rfl) (fun z hz => ?_) (by decide) (by decide) (hts (.classLink RL 20 "java/lang/IllegalStateException") (by decide +kernel)) (va_Nw.use rfl (hT.2.2.2.1 3)) h1 h2 h3 ?_
      · rcases List.mem_cons.mp hz with rfl | hz
        · exact Or.inr ⟨by decide, "java/lang/IndexOutOfBoundsException", hts (.classLink RL 13 "java/lang/IndexOutOfBoundsException") (by decide +kernel), hN 3 1 (by decide) (by decide) (by decide) (by decide) (by decide)⟩
        · obtain rfl : z = (tableOf [(0, 12, 15, 13), (0, 12, 19, 15), (0, 12, 23, 20)]).getD 1 default := List.mem_singleton.mp hz
          exact Or.inr ⟨by decide, "java/lang/IllegalArgumentException", hts (.classLink RL 15 "java/lang/IllegalArgumentException") (by decide +kernel), hN 3 2 (by decide) (by decide) (by decide) (by decide) (by decide)⟩
      · refine lv_astore (lv' := [(5, .ref q9), (0, .ref (ad 0)), (1, .int p0), (2, .int p1), (3, .int p2), (4, .ref aO)]) hx hb dL_gapIf_23 hl (by decide) rfl (fun ls hl => ?_)
        refine lv_iconst (v := 3) hx hb dL_gapIf_25 (by decide) ?_
        exact W.iret (v := 3) hx hb hr (fun t ht hW => ⟨⟨3, (ks, mt, mv, sw, hv, tk, g), rfl, Or.inr (Or.inr (Or.inr (⟨hw, rfl, rfl, rfl, rfl, rfl, rfl, rfl, rfl⟩))), ⟨by rw [ht]; exact hP, by rw [hAe]; exact hD⟩⟩, hS.F ht⟩) hS.2.2 dL_gapIf_26
  · rw [hRd] at hw
    obtain ⟨o0, o1, o2, o3, o4, o5⟩ := u
    have hP : va_P D vwCl ((kv_kw ci ad kc kh o0 fo kl kp dy mo n pa aE qp qm ql qv qc qe o1 o2 o3 o4 o5 tn sc) ++ [((aO, .inl (ci 4, 1, .inr (.inl g))) : Nat × va_E)]) H := hP
    have hD : va_D A ((kv_kw ci ad kc kh o0 fo kl kp dy mo n pa aE qp qm ql qv qc qe o1 o2 o3 o4 o5 tn sc) ++ [((aO, .inl (ci 4, 1, .inr (.inl g))) : Nat × va_E)]) := hD
    refine lv_i2l (v := r.toInt64) hx hb dL_gapIf_10 rfl ?_
    refine va_last hx hb hK hP hD hS (kv_kw ci ad kc kh o0 fo kl kp dy mo n pa aE qp qm ql qv qc qe o1 o2 o3 o4 o5 tn sc).length 4 kv_last rfl (by unfold vp_in; decide) dL_gapIf_11 (fun H locs hP hD hS => ?_)
    rw [kv_last_set] at hP hD
    refine lv_goto (tgt := 27) hx hb dL_gapIf_12 (by decide) ?_
    refine lv_iconst (v := 0) hx hb dL_gapIf_27 (by decide) ?_
    exact W.iret (v := 0) hx hb hr (fun t ht hW => ⟨⟨0, (o0, o1, o2, o3, o4, o5, (vp_updL g 0 r.toInt64)), rfl, Or.inl ⟨r, hw, rfl, rfl⟩, ⟨by rw [ht]; exact hP, by rw [hAe]; exact hD⟩⟩, hS.F ht⟩) hS.2.2 dL_gapIf_28

set_option maxHeartbeats 4000000 in
set_option maxRecDepth 100000 in
theorem c_L_spare (l : Launch) (hl9 : l.stackTraces = false) (D : va_G) (ci ad : Nat → Nat) (aS : Nat) (kc : Nat → Int32) (kh : Nat → Int32) (ks : Nat → Int32) (fo : Nat → Nat → Int32) (kl : Nat → Int32) (kp : Nat → Int32) (dy : Int32) (mo : Int32) (n : Nat) (pa : Nat → Nat) (aE : Nat) (qp : Nat → Int32) (qm : Nat → Int32) (ql : Nat → Int32) (qv : Nat → Int32) (qc : Nat → Int32) (qe : Nat → Int32) (mt : Nat → Int32) (mv : Nat → Int32) (sw : Nat → Int32) (hv : Int32) (tk : Nat → Int32) (tn : Nat → Int32) (sc : Nat → Int32) (aO : Nat) (g : Nat → Int64) (p0 : Int32) (hRn : pf_X2_spare kc kh fo kp n qp qm qv qc p0 mt mv sw hv tk ≠ none) (hEx : ∀ c9, pf_X2_spare kc kh fo kp n qp qm qv qc p0 mt mv sw hv tk = some (.inr c9) → c9 = 1) (sz : Nat) : Met l yL_spare wsL_spare ({ frames := 8, cells := 1, slots := 6, locals := 126 } : Room) (va_Pc [.ref (ad 0), .int p0, .ref aO] (kv_preW D ci aS ((kv_kw ci ad kc kh ks fo kl kp dy mo n pa aE qp qm ql qv qc qe mt mv sw hv tk tn sc) ++ [((aO, .inl (ci 4, 1, .inr (.inl g))) : Nat × va_E)]) sz)) (va_Qi (fun (r : Int32) (u : (Nat → Int32) × (Nat → Int32) × (Nat → Int32) × Int32 × (Nat → Int32) × (Nat → Int64)) => (∃ v : Int32, pf_X2_spare kc kh fo kp n qp qm qv qc p0 mt mv sw hv tk = some (.inl (v, u.1, u.2.1, u.2.2.1, u.2.2.2.1, u.2.2.2.2.1)) ∧ r = 0 ∧ u.2.2.2.2.2 = vp_updL g 0 v.toInt64) ∨ (pf_X2_spare kc kh fo kp n qp qm qv qc p0 mt mv sw hv tk = some (.inr 1) ∧ r = 1 ∧ u.1 = mt ∧ u.2.1 = mv ∧ u.2.2.1 = sw ∧ u.2.2.2.1 = hv ∧ u.2.2.2.2.1 = tk ∧ u.2.2.2.2.2 = g)) (fun u t => kv_post D ((kv_kw ci ad kc kh ks fo kl kp dy mo n pa aE qp qm ql qv qc qe mt mv sw hv tk tn sc) ++ [((aO, .inl (ci 4, 1, .inr (.inl g))) : Nat × va_E)]) sz (kv_kw ci ad kc kh ks fo kl kp dy mo n pa aE qp qm ql qv qc qe u.1 u.2.1 u.2.2.1 u.2.2.2.1 u.2.2.2.2.1 tn sc ++ [((aO, .inl (ci 4, 1, .inr (.inl u.2.2.2.2.2))) : Nat × va_E)]) t) (va_A ((kv_kw ci ad kc kh ks fo kl kp dy mo n pa aE qp qm ql qv qc qe mt mv sw hv tk tn sc) ++ [((aO, .inl (ci 4, 1, .inr (.inl g))) : Nat × va_E)]) sz)) 1 6 (va_A ((kv_kw ci ad kc kh ks fo kl kp dy mo n pa aE qp qm ql qv qc qe mt mv sw hv tk tn sc) ++ [((aO, .inl (ci 4, 1, .inr (.inl g))) : Nat × va_E)]) sz) := by
  refine va_MetW (cc := cL_spare) (maxL := 4) (ret := (some .int)) (by decide) rfl ?_
  intro p en s m args below meth c s₁ B hml hv
  obtain ⟨hv0, ⟨⟨⟨hsz, hP, hK, hD0⟩, hT⟩, hT2⟩, hN⟩ := hv
  have hx := B.exec
  have hb := B.bytes
  have hr := B.returns
  have hts := atoms_spec (ws := wsL_spare) B.pre
  have hown : s.vm.findClass RL = some m.cls := findClass_of_methodNamed B.named
  have hlocks := B.notSynchronized
  subst hsz
  have hD := hD0.self (sz := s.heap.size)
  generalize hAe : va_A ((kv_kw ci ad kc kh ks fo kl kp dy mo n pa aE qp qm ql qv qc qe mt mv sw hv tk tn sc) ++ [((aO, .inl (ci 4, 1, .inr (.inl g))) : Nat × va_E)]) s.heap.size = A at hD hT hT2 ⊢
  have hA : ∀ q : Nat, s.heap.size ≤ q → A q := fun q h => by rw [← hAe]; exact Or.inr h
  have hS : va_S A s.heap s.heap [] := va_S.rf
  have htb : c.exceptionTable.toList = tableOf [(0, 9, 12, 13)] := vx_table (x := yL_spare) B (hts (.codeWith yL_spare cL_spare 4 (some .int) [(0, 9, 12, 13)]) (by decide +kernel))
  refine W.eq (show entryFrame m args 4 = _ from by rw [hv0, lg_entry_eq]) ?_
  have hl := lv_entry ([.ref (ad 0), .int p0, .ref aO]) (n := 4) (Nat.le_of_ble_eq_true rfl)
  generalize (lg_sl ([.ref (ad 0), .int p0, .ref aO]) ++ List.replicate (4 - (lg_sl ([.ref (ad 0), .int p0, .ref aO])).length) Slot.unset).toArray = ls at hl ⊢
  have hl : lv_has ls 4 [(0, .ref (ad 0)), (1, .int p0), (2, .ref aO)] := hl
  generalize hRd : pf_X2_spare kc kh fo kp n qp qm qv qc p0 mt mv sw hv tk = Rz at hRn hEx ⊢
  refine lv_aload_n hx hb dL_spare_0 rfl (lv_at hl 2 rfl) ?_
  refine lv_iconst (v := 0) hx hb dL_spare_1 (by decide) ?_
  refine lv_aload_n hx hb dL_spare_2 rfl (lv_at hl 0 rfl) ?_
  refine lv_iload_n hx hb dL_spare_3 rfl (lv_at hl 1 rfl) ?_
  refine kv_xcalliF (vx_runV (As := [.int p0]) (rest := [.int 0, .ref aO]) ⟨hx, hb, hml, hown, hts⟩ (c_X2_spare l hl9 D ci ad kc kh ks fo kl kp dy mo n pa aE qp qm ql qv qc qe mt mv sw hv tk tn sc p0 (by rw [hRd]; exact hRn) s.heap.size) (cwV 1 hts gL_spare_X2_spare rfl rfl rfl (by decide +kernel) ⟨Nat.le_of_ble_eq_true rfl, Nat.le_of_ble_eq_true rfl⟩) (kv_preVX hK (kv_Pl hP) (kv_Dl hD) hT hS hA (r := (RX2, TX2, 9)) (q0 := 0) (k := 3) rfl rfl rfl) rfl rfl hl.1 rfl (lv_room (Nat.le_of_ble_eq_true rfl)) dL_spare_4 ⟨Nat.le_of_ble_eq_true rfl, Nat.le_of_ble_eq_true rfl⟩) hP hD hS hA (fun ce q9 u9 H locs hw hP hD hS h1 h2 h3 => ?_) (fun r u H locs hw hP hD hS => ?_)
  · rw [hRd] at hw
    rcases hEx _ hw with rfl
    · refine vx_catch (name := "java/lang/IndexOutOfBoundsException") hown ((tableOf [(0, 9, 12, 13)]).take 0) ((tableOf [(0, 9, 12, 13)]).getD 0 default) ((tableOf [(0, 9, 12, 13)]).drop 1) (by rw [htb]; rfl) (fun z hz => ?_) (by decide) (by decide) (hts (.classLink RL 13 "java/lang/IndexOutOfBoundsException") (by decide +kernel)) (va_Nw.use rfl (hT.2.2.2.1 1)) h1 h2 h3 ?_
      · exact absurd hz List.not_mem_nil
      · refine lv_astore_n (lv' := [(3, .ref q9), (0, .ref (ad 0)), (1, .int p0), (2, .ref aO)]) hx hb dL_spare_12 rfl hl (by decide) rfl (fun ls hl => ?_)
        refine lv_iconst (v := 1) hx hb dL_spare_13 (by decide) ?_
        exact W.iret (v := 1) hx hb hr (fun t ht hW => ⟨⟨1, (mt, mv, sw, hv, tk, g), rfl, Or.inr (⟨hw, rfl, rfl, rfl, rfl, rfl, rfl, rfl⟩), ⟨by rw [ht]; exact hP, by rw [hAe]; exact hD⟩⟩, hS.F ht⟩) hS.2.2 dL_spare_14
  · rw [hRd] at hw
    obtain ⟨o0, o1, o2, o3, o4⟩ := u
    have hP : va_P D vwCl ((kv_kw ci ad kc kh ks fo kl kp dy mo n pa aE qp qm ql qv qc qe o0 o1 o2 o3 o4 tn sc) ++ [((aO, .inl (ci 4, 1, .inr (.inl g))) : Nat × va_E)]) H := hP
    have hD : va_D A ((kv_kw ci ad kc kh ks fo kl kp dy mo n pa aE qp qm ql qv qc qe o0 o1 o2 o3 o4 tn sc) ++ [((aO, .inl (ci 4, 1, .inr (.inl g))) : Nat × va_E)]) := hD
    refine lv_i2l (v := r.toInt64) hx hb dL_spare_7 rfl ?_
    refine va_last hx hb hK hP hD hS (kv_kw ci ad kc kh ks fo kl kp dy mo n pa aE qp qm ql qv qc qe o0 o1 o2 o3 o4 tn sc).length 4 kv_last rfl (by unfold vp_in; decide) dL_spare_8 (fun H locs hP hD hS => ?_)
    rw [kv_last_set] at hP hD
    refine lv_goto (tgt := 15) hx hb dL_spare_9 (by decide) ?_
    refine lv_iconst (v := 0) hx hb dL_spare_15 (by decide) ?_
    exact W.iret (v := 0) hx hb hr (fun t ht hW => ⟨⟨0, (o0, o1, o2, o3, o4, (vp_updL g 0 r.toInt64)), rfl, Or.inl ⟨r, hw, rfl, rfl⟩, ⟨by rw [ht]; exact hP, by rw [hAe]; exact hD⟩⟩, hS.F ht⟩) hS.2.2 dL_spare_16
