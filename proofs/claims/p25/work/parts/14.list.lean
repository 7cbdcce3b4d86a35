-- ===== THE LIST'S add: worlds B mo aE nn ++ L, the list's object at place 7 of B =====
section KVL
def kv_isB (a7 : Nat) (B : Int32 → Nat → Int32 → va_W) : Prop := (∀ mo aE nn, (B mo aE nn).length = 23) ∧ (∀ mo aE nn, (B mo aE nn)[7]? = some (a7, .inr (0, [.int mo, .ref aE, .int nn]))) ∧ ∀ mo aE nn mo' aE' nn', (B mo aE nn).set 7 (a7, .inr (0, [.int mo', .ref aE', .int nn'])) = B mo' aE' nn'
theorem kv_B7 {a7 : Nat} {B : Int32 → Nat → Int32 → va_W} (h : kv_isB a7 B) {mo nn : Int32} {aE : Nat} {L : va_W} : (B mo aE nn ++ L)[7]? = some (a7, .inr (0, [.int mo, .ref aE, .int nn])) := by
  rw [List.getElem?_append_left (by rw [h.1]; decide)]
  exact h.2.1 mo aE nn
theorem kv_Bs {a7 : Nat} {B : Int32 → Nat → Int32 → va_W} (h : kv_isB a7 B) {mo nn mo' nn' : Int32} {aE aE' : Nat} {L : va_W} : (B mo aE nn ++ L).set 7 (a7, .inr (0, [.int mo', .ref aE', .int nn'])) = B mo' aE' nn' ++ L := by
  rw [List.set_append_left _ _ (by rw [h.1]; decide), h.2.2]
theorem kv_B23 {a7 : Nat} {B : Int32 → Nat → Int32 → va_W} (h : kv_isB a7 B) {mo nn : Int32} {aE : Nat} {x : Nat × va_E} {L : va_W} : (B mo aE nn ++ (x :: L))[23]? = some x := by
  rw [List.getElem?_append_right (by rw [h.1]; decide), h.1]
  rfl
theorem kv_Bs23 {a7 : Nat} {B : Int32 → Nat → Int32 → va_W} (h : kv_isB a7 B) {mo nn : Int32} {aE : Nat} {x y : Nat × va_E} {L : va_W} : (B mo aE nn ++ (x :: L)).set 23 y = B mo aE nn ++ (y :: L) := by
  rw [List.set_append_right _ _ (by rw [h.1]; decide), h.1]
  rfl
theorem kv_D_iff {A : Nat → Prop} {ws : va_W} : va_D A ws ↔ (ws.map (·.1)).Nodup ∧ ∀ x ∈ ws, A x.1 := by
  constructor
  · intro h
    refine ⟨?_, fun x hx => ?_⟩
    · refine List.pairwise_iff_getElem.mpr fun i j hi hj hij hx => ?_
      rw [List.length_map] at hi hj
      rw [List.getElem_map, List.getElem_map] at hx
      have := h.1 i j _ _ (List.getElem?_eq_getElem hi) (List.getElem?_eq_getElem hj) hx
      omega
    · obtain ⟨k, hk⟩ := List.getElem?_of_mem hx
      exact h.2 k x hk
  · rintro ⟨h1, h2⟩
    refine ⟨fun i j x y hi hj e => ?_, fun k x hk => h2 x (List.mem_of_getElem? hk)⟩
    have hi' : (ws.map (·.1))[i]? = some x.1 := by rw [List.getElem?_map, hi]; rfl
    have hj' : (ws.map (·.1))[j]? = some x.1 := by rw [List.getElem?_map, hj, e]; rfl
    have h3 := List.pairwise_iff_getElem.mp h1
    obtain ⟨hi1, hi2⟩ := List.getElem?_eq_some_iff.mp hi'
    obtain ⟨hj1, hj2⟩ := List.getElem?_eq_some_iff.mp hj'
    rcases Nat.lt_trichotomy i j with c | c | c
    · exact absurd (hi2.trans hj2.symm) (h3 i j hi1 hj1 c)
    · exact c
    · exact absurd (hj2.trans hi2.symm) (h3 j i hj1 hi1 c)
theorem kv_P_mem {D : va_G} {cl : List vw_C} {ws ws' : va_W} {H : Heap} (h : va_P D cl ws H) (hs : ∀ x ∈ ws', x ∈ ws) : va_P D cl ws' H := by
  intro k q hk
  obtain ⟨i, hi⟩ := List.getElem?_of_mem (hs q (List.mem_of_getElem? hk))
  exact h i q hi
theorem kv_D_sub {A : Nat → Prop} {ws ws' ws2 : va_W} (h : va_D A ws) (hp : ws'.Perm ws2) (hs : ws2.Sublist ws) : va_D A ws' := by
  rw [kv_D_iff] at h ⊢
  refine ⟨((hp.map _).nodup_iff).mpr (h.1.sublist (hs.map _)), fun x hx => h.2 x (hs.subset (hp.subset hx))⟩
theorem kv_rotP {D : va_G} {cl : List vw_C} {X E M : va_W} {y : Nat × va_E} {H : Heap} (h : va_P D cl ((X ++ (E ++ M)) ++ [y]) H) : va_P D cl (X ++ (y :: M)) H := kv_P_mem h (by
  intro x hx
  simp only [List.mem_append, List.mem_cons, List.not_mem_nil, or_false] at hx ⊢
  rcases hx with h | h | h
  · exact Or.inl (Or.inl h)
  · exact Or.inr h
  · exact Or.inl (Or.inr (Or.inr h)))
theorem kv_rotD {A : Nat → Prop} {X E M : va_W} {y : Nat × va_E} (h : va_D A ((X ++ (E ++ M)) ++ [y])) : va_D A (X ++ (y :: M)) := by
  refine kv_D_sub (ws2 := (X ++ M) ++ [y]) h ?_ ?_
  · rw [List.append_assoc]
    exact List.Perm.append_left X (List.perm_append_singleton y M).symm
  · exact (List.Sublist.append (List.Sublist.append (List.Sublist.refl X) (List.sublist_append_right E M)) (List.Sublist.refl [y]))
/-- what the list's growing needs of the machine: the empty row that all new lists share, Object[]'s class, that a right is an Object -/
def kv_lst (aS : Nat) (A : Nat → Prop) (U : State) : Prop := va_Z "java/util/ArrayList" "DEFAULTCAPACITY_EMPTY_ELEMENTDATA" "[Ljava/lang/Object;" (.ref aS) A U U.heap ∧ va_T (.object "java/lang/Object") aS 0 (fun _ => .null) A U U.heap ∧ (∃ mi, va_Mi "[Ljava/lang/Object;" mi U) ∧ va_Dc U ∧ va_AO "java/lang/Object" U ∧ va_Nw (.castable "LicenceKeeper$Right" "java/lang/Object") U
def kv_preL (D : va_G) (ci : Nat → Nat) (aS : Nat) (w0 : va_W) (sz : Nat) (U : State) : Prop := kv_pre D ci w0 sz U ∧ kv_lst aS (va_A w0 sz) U
theorem kv_lst_calling {aS : Nat} {A : Nat → Prop} {U : State} {g : JFrame} {mk : MethodId} {a : Array Value} (h : kv_lst aS A U) : kv_lst aS A (U.calling g mk a) := by
  obtain ⟨h1, h2, ⟨mi, h3⟩, h4, h5, h6⟩ := h
  exact ⟨va_Z.moved (u := U) (U := U.calling g mk a) (Vm.Alike.refl U.vm) h1, va_T.moved (u := U) (U := U.calling g mk a) (Vm.Alike.refl U.vm) h2, ⟨mi, va_Mi.moved (u := U) (U := U.calling g mk a) (Vm.Alike.refl U.vm) h3⟩, va_Dc.moved (u := U) (U := U.calling g mk a) (Vm.Alike.refl U.vm) h4, va_AO.moved (u := U) (U := U.calling g mk a) (Vm.Alike.refl U.vm) h5, va_Nw.same (by rfl) rfl h6⟩
theorem kv_lst_at {aS : Nat} {A B : Nat → Prop} {s U : State} {H : Heap} {locs : List Loc} (h : kv_lst aS A s) (hS : va_S A s.heap H locs) (hB : ∀ q, B q → A q) (hU : U.heap = H) (hW : s.WarmedH U.vm) : kv_lst aS B U := by
  obtain ⟨h1, h2, ⟨mi, h3⟩, h4, h5, h6⟩ := h
  refine ⟨?_, ?_, ⟨mi, va_Mi.moved hW.alike h3⟩, va_Dc.moved hW.alike h4, va_AO.moved hW.alike h5, va_Nw.warmC hW h6⟩
  · rw [hU]; exact ((h1.kept hS.2.1).narrow hB).moved hW.alike
  · rw [hU]; exact ((h2.kept hS.2.1).narrow hB).moved hW.alike
theorem kv_preL_blind {D : va_G} {ci : Nat → Nat} {aS : Nat} {w0 : va_W} {sz : Nat} {av : List Value} : FrameBlind (va_Pc av (kv_preL D ci aS w0 sz)) := fun a U g mk q => ⟨q.1, (kv_pre_blind a U g mk ⟨q.1, q.2.1⟩).2, kv_lst_calling q.2.2⟩
variable {p : Program} {l : Launch} {e : Env} {R : Room} {s : State} {m : MethodId} {args : Array Value} {below : List Frame} {meth : Method} {c : Code} {H : Heap} {locs : List Loc} {cells slots : Nat} {Q : State → Prop}
variable {pc : Nat} {ls : Array Slot} {rest st0 : List Value} {a : Array Value} {A : Nat → Prop} {H0 : Heap} {mc ms : Nat} {D : va_G} {ci : Nat → Nat} {w0 : va_W}
theorem kv_preVL {aS : Nat} {C : String} {b : Nat} {As : List Value} (hK : va_K D vwCl (kv_tys ci) s) (hP : va_P D vwCl w0 H) (hD : va_D A w0) (hT : kv_lst aS A s) (hS : va_S A s.heap H locs) (hA : ∀ q, s.heap.size ≤ q → A q) {r : vw_C} {q0 k : Nat} {fs : List Value} (hc : vwCl[k]? = some r) (hC : r.1 = C) (he : w0[q0]? = some (b, .inr (k, fs))) : PreV s H C b (va_Pc (.ref b :: As) (kv_preL D ci aS w0 H.size)) As := by
  subst hC
  exact ⟨kv_preL_blind, va_recv hK hP hc he, fun U hU hW => ⟨rfl, ⟨by rw [hU], by rw [hU]; exact hP, va_K.moved hW.alike hK, hD.weaken (fun _ _ _ _ => trivial)⟩, kv_lst_at hT hS (kv_free hD hS hA) hU hW⟩⟩
theorem kv_preSL {aS : Nat} {As : List Value} (hK : va_K D vwCl (kv_tys ci) s) (hP : va_P D vwCl w0 H) (hD : va_D A w0) (hT : kv_lst aS A s) (hS : va_S A s.heap H locs) (hA : ∀ q, s.heap.size ≤ q → A q) : PreS s H (va_Pc As (kv_preL D ci aS w0 H.size)) As :=
  ⟨kv_preL_blind, fun U hU hW => ⟨rfl, ⟨by rw [hU], by rw [hU]; exact hP, va_K.moved hW.alike hK, hD.weaken (fun _ _ _ _ => trivial)⟩, kv_lst_at hT hS (kv_free hD hS hA) hU hW⟩⟩
theorem kv_callr {wf : Nat → va_W} (hr : va_Run p l e R s m args below meth c H locs cells slots mc ms (F0 m pc ls st0) rest (va_Qr (fun _ : Unit => True) (fun _ ra t => kv_post D w0 H.size (wf ra) t) (va_A w0 H.size) a) (va_A w0 H.size)) (hD : va_D A w0) (hS : va_S A H0 H locs) (hA : ∀ q, H0.size ≤ q → A q)
    (kk : ∀ (ra : Nat) (H1 : Heap) (locs1 : List Loc), va_P D vwCl (wf ra) H1 → va_D A (wf ra) → va_S A H0 H1 locs1 → W p l e R s m args below meth c H1 locs1 (cells + mc) (slots + ms) Q (F0 m (pc + 3) ls (.ref ra :: rest))) : W p l e R s m args below meth c H locs cells slots Q (F0 m pc ls st0) := by
  have hF := kv_free hD hS hA
  refine va_callr hr hS (fun q _ h => hF q h) hF (fun u ra t H1 locs1 ht hvm hw hB hz1 hk1 hS1 => ?_)
  obtain ⟨hP1, hD1⟩ := hB
  rw [ht] at hP1
  exact kk ra H1 locs1 hP1 (hD1.weaken fun k x hx hq => hF _ hq) hS1
theorem kv_cls2 {cA : ClassId} (hK : va_K D vwCl (kv_tys ci ++ [(cA, .object "java/lang/Object")]) s) : cA = ci 2 := by
  obtain ⟨-, kA, c1, -, -, -, h1⟩ := hK.2 4 _ rfl
  obtain ⟨-, kB, c2, -, -, -, h2⟩ := hK.2 2 _ rfl
  exact Option.some.inj (h1.symm.trans h2)
theorem kv_arrObj (hK : va_K D vwCl (kv_tys ci) s) {q0 a n : Nat} {f : Nat → Option Nat} (hP : va_P D vwCl w0 H) (h : w0[q0]? = some (a, .inl (ci 2, n, .inr (.inr (.inr (.inr f)))))) : ∃ cell : Cell, H[a]? = some cell ∧ cell.vm.isStatics = false ∧ s.vm.findClass "[Ljava/lang/Object;" = some cell.cls := by
  obtain ⟨-, kB, c2, -, -, -, h2⟩ := hK.2 2 _ rfl
  exact ⟨_, hP q0 _ h, rfl, h2⟩
theorem kv_castable {C T : String} (h : va_Nw (.castable C T) s) {comp c0 : ClassId} (h1 : s.vm.findClass T = some comp) (h2 : s.vm.findClass C = some c0) : s.vm.assignable c0 comp = true := by
  obtain ⟨c3, c4, e3, e4, ha⟩ := Cond.castable_spec h
  cases Option.some.inj (e3.symm.trans h2)
  cases Option.some.inj (e4.symm.trans h1)
  exact ha
theorem kv_preSLM {aS mi : Nat} {As : List Value} (hK : va_K D vwCl (kv_tys ci) s) (hP : va_P D vwCl w0 H) (hD : va_D A w0) (hT : kv_lst aS A s) (hM : va_Mi "[Ljava/lang/Object;" mi s) (hS : va_S A s.heap H locs) (hA : ∀ q, s.heap.size ≤ q → A q) : PreS s H (va_Pc As (fun U => kv_preL D ci aS w0 H.size U ∧ va_Mi "[Ljava/lang/Object;" mi U)) As :=
  ⟨fun a U g mk q => ⟨q.1, (kv_preL_blind a U g mk ⟨q.1, q.2.1⟩).2, va_Mi.moved (u := U) (U := U.calling g mk a) (Vm.Alike.refl U.vm) q.2.2⟩, fun U hU hW => ⟨rfl, ((kv_preSL (As := As) hK hP hD hT hS hA).2 U hU hW).2, va_Mi.moved hW.alike hM⟩⟩
theorem kv_inM {a7 : Nat} {B : Int32 → Nat → Int32 → va_W} (h : kv_isB a7 B) {mo nn : Int32} {aE y : Nat} {x : Nat × va_E} {M : va_W} (hm : ∃ (qq : Nat) (fs : List Value), M[qq]? = some (y, .inr (2, fs))) : ∃ (qq : Nat) (fs : List Value), (B mo aE nn ++ (x :: M))[qq]? = some (y, .inr (2, fs)) := by
  obtain ⟨qq, fs, hq⟩ := hm
  refine ⟨23 + (qq + 1), fs, ?_⟩
  rw [List.getElem?_append_right (by rw [h.1]; omega), h.1, Nat.add_sub_cancel_left]
  exact hq
theorem kv_inM1 {a7 : Nat} {B : Int32 → Nat → Int32 → va_W} (h : kv_isB a7 B) {mo nn : Int32} {aE y qq : Nat} {fs : List Value} {x : Nat × va_E} {M : va_W} (hm : M[qq]? = some (y, .inr (2, fs))) : (B mo aE nn ++ (x :: M))[23 + (qq + 1)]? = some (y, .inr (2, fs)) := by
  rw [List.getElem?_append_right (by rw [h.1]; omega), h.1, Nat.add_sub_cancel_left]
  exact hm
theorem kv_cong {α : Type} {f : α → Prop} {a b : α} (e : a = b) (h : f a) : f b := e ▸ h
end KVL

set_option maxHeartbeats 4000000 in
set_option maxRecDepth 100000 in
theorem c_K_newLength (l : Launch) (D : va_G) (ci : Nat → Nat) (w0 : va_W) (sz : Nat) : Met l yJ8_newLength_cabcc wsJ8_newLength_cabcc ({ frames := 1, cells := 0, slots := 0, locals := 20 } : Room) (va_Pc [.int 10, .int 1, .int 5] (kv_pre D ci w0 sz)) (va_Qi (fun (r : Int32) (_ : Unit) => r = 15) (fun u t => kv_post D w0 sz w0 t) (va_A w0 sz)) 0 0 (va_A w0 sz) := by
  refine Met.ofW (cc := cJ8_newLength_cabcc) (maxL := 4) (ret := (some .int)) (by decide) rfl ?_
  intro p en s m args below meth c s₁ B hml hv
  obtain ⟨hv0, hsz, hP, hK, hD0⟩ := hv
  have hx := B.exec
  have hb := B.bytes
  have hr := B.returns
  have hts := atoms_spec (ws := wsJ8_newLength_cabcc) B.pre
  have hown : s.vm.findClass RJ8 = some m.cls := findClass_of_methodNamed B.named
  have hlocks := B.notSynchronized
  subst hsz
  have hD := hD0.self (sz := s.heap.size)
  generalize hAe : va_A w0 s.heap.size = A at hD ⊢
  have hA : ∀ q : Nat, s.heap.size ≤ q → A q := fun q h => by rw [← hAe]; exact Or.inr h
  have hS : va_S A s.heap s.heap [] := va_S.rf
  have hP : va_P D vwCl w0 s.heap := hP
  refine W.eq (show entryFrame m args 4 = _ from by rw [hv0, lg_entry_eq]) ?_
  have hl := lv_entry ([.int 10, .int 1, .int 5]) (n := 4) (Nat.le_of_ble_eq_true rfl)
  generalize (lg_sl ([.int 10, .int 1, .int 5]) ++ List.replicate (4 - (lg_sl ([.int 10, .int 1, .int 5])).length) Slot.unset).toArray = ls at hl ⊢
  have hl : lv_has ls 4 [(0, .int 10), (1, .int 1), (2, .int 5)] := hl
  refine lv_iload_n hx hb dJ8_newLength_cabcc_0 rfl (lv_at hl 0 rfl) ?_
  refine lv_iload_n hx hb dJ8_newLength_cabcc_1 rfl (lv_at hl 1 rfl) ?_
  refine lv_iload_n hx hb dJ8_newLength_cabcc_2 rfl (lv_at hl 2 rfl) ?_
  refine va_mmax hx hb (hml.trans hl.1.symm) hown (hts (.methodLink RJ8 194 Lib.Math.max.name) (by decide +kernel)) (hts (.static Lib.Math.max.name) (by decide +kernel)) (hts (.initialized "java/lang/Math") (by decide +kernel)) (hts (.code Lib.Math.max.name Lib.Math.max.code 2 (some .int)) (by decide +kernel)) (Nat.le_of_ble_eq_true rfl) (Nat.le_of_ble_eq_true rfl) (Nat.le_of_ble_eq_true rfl) (Nat.le_of_ble_eq_true rfl) dJ8_newLength_cabcc_3 ?_
  rw [show (if (1 : Int32) < 5 then (5 : Int32) else 1) = 5 from by decide]
  refine lv_iadd hx hb dJ8_newLength_cabcc_6 ?_
  rw [show (10 : Int32) + 5 = 15 from by decide]
  refine lv_istore_n (lv' := [(3, .int 15), (0, .int 10), (1, .int 1), (2, .int 5)]) hx hb dJ8_newLength_cabcc_7 rfl hl (by decide) rfl (fun ls hl => ?_)
  refine lv_iconst (v := 0) hx hb dJ8_newLength_cabcc_8 (by decide) ?_
  refine lv_iload_n hx hb dJ8_newLength_cabcc_9 rfl (lv_at hl 0 rfl) ?_
  refine lv_icmp_ge (tgt := 21) hx hb dJ8_newLength_cabcc_10 (by decide) (fun c => absurd c (by decide)) (fun _ => ?_)
  refine lv_iload_n hx hb dJ8_newLength_cabcc_13 rfl (lv_at hl 0 rfl) ?_
  refine lv_ldc (v := 2147483639) hx hb hown (hts (.constant RJ8 200 2147483639) (by decide +kernel)) dJ8_newLength_cabcc_14 ?_
  refine lv_icmp_gt (tgt := 21) hx hb dJ8_newLength_cabcc_16 (by decide) (fun c => absurd c (by decide)) (fun _ => ?_)
  refine lv_iload_n hx hb dJ8_newLength_cabcc_19 rfl (lv_at hl 0 rfl) ?_
  exact W.iret (v := 15) hx hb hr (fun t ht hW => ⟨⟨15, (), rfl, rfl, ⟨by rw [ht]; exact hP, by rw [hAe]; exact hD⟩⟩, hS.F ht⟩) hS.2.2 dJ8_newLength_cabcc_20

set_option maxHeartbeats 4000000 in
set_option maxRecDepth 100000 in
theorem c_K_copyOf3 (l : Launch) (D : va_G) (ci : Nat → Nat) (aS : Nat) (w0 : va_W) (q0 aE : Nat) (f : Nat → Option Nat) (ha : w0[q0]? = some (aE, .inl (ci 2, 10, .inr (.inr (.inr (.inr f)))))) (hel : ∀ i, i < 10 → ∀ y, f i = some y → ∃ (qq : Nat) (fs : List Value), w0[qq]? = some (y, .inr (2, fs))) (mi : Nat) (sz : Nat) : Met l yJ7_copyOf_6403c wsJ7_copyOf_6403c ({ frames := 1, cells := 1, slots := 15, locals := 60 } : Room) (va_Pc [.ref aE, .int 15, .ref mi] (fun U => kv_preL D ci aS w0 sz U ∧ va_Mi "[Ljava/lang/Object;" mi U)) (va_Qr (fun _ : Unit => True) (fun _ ra t => kv_post D w0 sz (w0 ++ [(ra, .inl (ci 2, 15, .inr (.inr (.inr (.inr (va_cpy f (fun _ => none) 0 0 10))))))]) t) (va_A w0 sz)) 1 15 (va_A w0 sz) := by
  refine Met.ofW (cc := cJ7_copyOf_6403c) (maxL := 4) (ret := (some (.array (.object "java/lang/Object")))) (by decide) rfl ?_
  intro p en s m args below meth c s₁ B hml hv
  obtain ⟨hv0, ⟨⟨hsz, hP, hK, hD0⟩, hT⟩, hMi⟩ := hv
  have hx := B.exec
  have hb := B.bytes
  have hr := B.returns
  have hts := atoms_spec (ws := wsJ7_copyOf_6403c) B.pre
  have hown : s.vm.findClass RJ7 = some m.cls := findClass_of_methodNamed B.named
  have hlocks := B.notSynchronized
  subst hsz
  have hD := hD0.self (sz := s.heap.size)
  generalize hAe : va_A w0 s.heap.size = A at hD hT ⊢
  have hA : ∀ q : Nat, s.heap.size ≤ q → A q := fun q h => by rw [← hAe]; exact Or.inr h
  have hS : va_S A s.heap s.heap [] := va_S.rf
  have hP : va_P D vwCl w0 s.heap := hP
  refine W.eq (show entryFrame m args 4 = _ from by rw [hv0, lg_entry_eq]) ?_
  have hl := lv_entry ([.ref aE, .int 15, .ref mi]) (n := 4) (Nat.le_of_ble_eq_true rfl)
  generalize (lg_sl ([.ref aE, .int 15, .ref mi]) ++ List.replicate (4 - (lg_sl ([.ref aE, .int 15, .ref mi])).length) Slot.unset).toArray = ls at hl ⊢
  have hl : lv_has ls 4 [(0, .ref aE), (1, .int 15), (2, .ref mi)] := hl
  refine lv_aload_n hx hb dJ7_copyOf_6403c_0 rfl (lv_at hl 2 rfl) ?_
  refine va_ldcM hx hb hown (hts (.classLink RJ7 110 "[Ljava/lang/Object;") (by decide +kernel)) hMi dJ7_copyOf_6403c_1 ?_
  refine lv_acmp_ne (rx := some mi) (ry := some mi) (tgt := 13) hx hb dJ7_copyOf_6403c_3 (by decide) (fun c => absurd rfl c) (fun _ => ?_)
  refine lv_iload_n hx hb dJ7_copyOf_6403c_6 rfl (lv_at hl 1 rfl) ?_
  refine va_newq (N' := 15) hx hb hown (hts (.classLink RJ7 2 "java/lang/Object") (by decide +kernel)) hT.2.2.2.2.1 hK hP hD hS hA (by decide) (by decide) (by decide) (Nat.le_of_ble_eq_true rfl) (Nat.le_of_ble_eq_true rfl) dJ7_copyOf_6403c_7 (fun q cA H hK2 hP hD hS => ?_)
  obtain rfl := kv_cls2 hK2
  refine lv_goto (tgt := 24) hx hb dJ7_copyOf_6403c_10 (by decide) ?_
  refine lv_astore_n (lv' := [(3, .ref q), (0, .ref aE), (1, .int 15), (2, .ref mi)]) hx hb dJ7_copyOf_6403c_24 rfl hl (by decide) rfl (fun ls hl => ?_)
  refine lv_aload_n hx hb dJ7_copyOf_6403c_25 rfl (lv_at hl 1 rfl) ?_
  refine lv_iconst (v := 0) hx hb dJ7_copyOf_6403c_26 (by decide) ?_
  refine lv_aload_n hx hb dJ7_copyOf_6403c_27 rfl (lv_at hl 0 rfl) ?_
  refine lv_iconst (v := 0) hx hb dJ7_copyOf_6403c_28 (by decide) ?_
  refine lv_aload_n hx hb dJ7_copyOf_6403c_29 rfl (lv_at hl 1 rfl) ?_
  have ha2 : (w0 ++ [(q, .inl (ci 2, 15, .inr (.inr (.inr (.inr (fun _ => none))))))])[q0]? = some (aE, .inl (ci 2, 10, .inr (.inr (.inr (.inr f))))) := by rw [List.getElem?_append_left (List.getElem?_eq_some_iff.mp ha).1]; exact ha
  have hq2 : (w0 ++ [(q, .inl (ci 2, 15, .inr (.inr (.inr (.inr (fun _ => none))))))])[w0.length]? = some (q, .inl (ci 2, 15, .inr (.inr (.inr (.inr (fun _ => none)))))) := by rw [List.getElem?_append_right (Nat.le_refl _), Nat.sub_self]; rfl
  refine va_alen (v := 10) hx hb hK hP q0 2 ha2 rfl rfl dJ7_copyOf_6403c_30 ?_
  refine lv_iload_n hx hb dJ7_copyOf_6403c_31 rfl (lv_at hl 2 rfl) ?_
  refine va_mmin hx hb (hml.trans hl.1.symm) hown (hts (.methodLink RJ7 304 Lib.Math.min.name) (by decide +kernel)) (hts (.static Lib.Math.min.name) (by decide +kernel)) (hts (.initialized "java/lang/Math") (by decide +kernel)) (hts (.code Lib.Math.min.name Lib.Math.min.code 2 (some .int)) (by decide +kernel)) (Nat.le_of_ble_eq_true rfl) (Nat.le_of_ble_eq_true rfl) (Nat.le_of_ble_eq_true rfl) (Nat.le_of_ble_eq_true rfl) dJ7_copyOf_6403c_32 ?_
  rw [show (if (15 : Int32) < 10 then (15 : Int32) else 10) = 10 from by decide]
  have hca : va_Nw (.castable "LicenceKeeper$Right" "java/lang/Object") s := hT.2.2.2.2.2
  refine va_copyq (C := "LicenceKeeper$Right") hx hb (hml.trans hl.1.symm) hown (hts (.methodLink RJ7 150 arraycopyName) (by decide +kernel)) (hts (.native arraycopyName) (by decide +kernel)) (hts (.static arraycopyName) (by decide +kernel)) (hts (.initialized "java/lang/System") (by decide +kernel)) hK hP hD hS q0 w0.length 2 2 ha2 hq2 rfl rfl (by decide) (by decide) (by decide) (by decide) (by decide) (fun i hi y hy => ?_) (fun comp c0 h1 h2 => ?_) (Nat.le_of_ble_eq_true rfl) (by decide +kernel) dJ7_copyOf_6403c_35 (fun H locs hP hD hS => ?_)
  · obtain ⟨qq, fs, hqq⟩ := hel i hi y (by rw [← hy]; exact congrArg f (Nat.zero_add i).symm)
    exact va_recv hK hP (ci := 2) (q0 := qq) (q := (RX1, TX1, 6)) (fs := fs) rfl (by rw [List.getElem?_append_left (List.getElem?_eq_some_iff.mp hqq).1]; exact hqq)
  · exact kv_castable hca h1 h2
  · have hw : ∀ g : Nat → Option Nat, (w0 ++ [((q, .inl (ci 2, 15, .inr (.inr (.inr (.inr (fun _ => none)))))) : Nat × va_E)]).set w0.length ((q, .inl (ci 2, 15, .inr (.inr (.inr (.inr g))))) : Nat × va_E) = w0 ++ [((q, .inl (ci 2, 15, .inr (.inr (.inr (.inr g))))) : Nat × va_E)] := fun g => by rw [List.set_append_right _ _ (Nat.le_refl _), Nat.sub_self]; rfl
    rw [hw] at hP hD
    refine lv_aload_n hx hb dJ7_copyOf_6403c_38 rfl (lv_at hl 0 rfl) ?_
    exact W.aret (v := .ref q) hx hb hr (Or.inr ⟨_, rfl⟩) (Or.inr ⟨_, rfl⟩) (fun t ht hW => ⟨⟨(), q, rfl, trivial, ⟨by rw [ht]; exact hP, by rw [hAe]; exact hD⟩⟩, hS.F ht⟩) hS.2.2 dJ7_copyOf_6403c_39

set_option maxHeartbeats 4000000 in
set_option maxRecDepth 100000 in
theorem c_K_copyOf2 (l : Launch) (D : va_G) (ci : Nat → Nat) (aS : Nat) (w0 : va_W) (q0 aE : Nat) (f : Nat → Option Nat) (ha : w0[q0]? = some (aE, .inl (ci 2, 10, .inr (.inr (.inr (.inr f)))))) (hel : ∀ i, i < 10 → ∀ y, f i = some y → ∃ (qq : Nat) (fs : List Value), w0[qq]? = some (y, .inr (2, fs))) (sz : Nat) : Met l yJ7_copyOf_1904c wsJ7_copyOf_1904c ({ frames := 2, cells := 1, slots := 15, locals := 83 } : Room) (va_Pc [.ref aE, .int 15] (kv_preL D ci aS w0 sz)) (va_Qr (fun _ : Unit => True) (fun _ ra t => kv_post D w0 sz (w0 ++ [(ra, .inl (ci 2, 15, .inr (.inr (.inr (.inr (va_cpy f (fun _ => none) 0 0 10))))))]) t) (va_A w0 sz)) 1 15 (va_A w0 sz) := by
  refine Met.ofW (cc := cJ7_copyOf_1904c) (maxL := 2) (ret := (some (.array (.object "java/lang/Object")))) (by decide) rfl ?_
  intro p en s m args below meth c s₁ B hml hv
  obtain ⟨hv0, ⟨hsz, hP, hK, hD0⟩, hT⟩ := hv
  have hx := B.exec
  have hb := B.bytes
  have hr := B.returns
  have hts := atoms_spec (ws := wsJ7_copyOf_1904c) B.pre
  have hown : s.vm.findClass RJ7 = some m.cls := findClass_of_methodNamed B.named
  have hlocks := B.notSynchronized
  subst hsz
  have hD := hD0.self (sz := s.heap.size)
  generalize hAe : va_A w0 s.heap.size = A at hD hT ⊢
  have hA : ∀ q : Nat, s.heap.size ≤ q → A q := fun q h => by rw [← hAe]; exact Or.inr h
  have hS : va_S A s.heap s.heap [] := va_S.rf
  have hP : va_P D vwCl w0 s.heap := hP
  refine W.eq (show entryFrame m args 2 = _ from by rw [hv0, lg_entry_eq]) ?_
  have hl := lv_entry ([.ref aE, .int 15]) (n := 2) (Nat.le_of_ble_eq_true rfl)
  generalize (lg_sl ([.ref aE, .int 15]) ++ List.replicate (2 - (lg_sl ([.ref aE, .int 15])).length) Slot.unset).toArray = ls at hl ⊢
  have hl : lv_has ls 2 [(0, .ref aE), (1, .int 15)] := hl
  obtain ⟨mi, hMi⟩ := hT.2.2.1
  refine lv_aload_n hx hb dJ7_copyOf_1904c_0 rfl (lv_at hl 0 rfl) ?_
  refine lv_iload_n hx hb dJ7_copyOf_1904c_1 rfl (lv_at hl 1 rfl) ?_
  refine lv_aload_n hx hb dJ7_copyOf_1904c_2 rfl (lv_at hl 0 rfl) ?_
  refine va_getC (C := "[Ljava/lang/Object;") hx hb (hml.trans hl.1.symm) hown (hts (.methodLink RJ7 86 ⟨"java/lang/Object", "getClass", "()Ljava/lang/Class;"⟩) (by decide +kernel)) (va_Dc.use hT.2.2.2.1) (hts (.selects "[Ljava/lang/Object;" ⟨"java/lang/Object", "getClass", "()Ljava/lang/Class;"⟩ ⟨"java/lang/Object", "getClass", "()Ljava/lang/Class;"⟩) (by decide +kernel)) (hts (.instanceMethod ⟨"java/lang/Object", "getClass", "()Ljava/lang/Class;"⟩) (by decide +kernel)) (hts (.native ⟨"java/lang/Object", "getClass", "()Ljava/lang/Class;"⟩) (by decide +kernel)) hMi (kv_arrObj hK hP ha) (Nat.le_of_ble_eq_true rfl) (Nat.le_of_ble_eq_true rfl) dJ7_copyOf_1904c_3 ?_
  refine kv_callr (va_runS (As := [.ref aE, .int 15, .ref mi]) (rest := []) ⟨hx, hb, hml, hown, hts⟩ (c_K_copyOf3 l D ci aS w0 q0 aE f ha hel mi s.heap.size) (va_cwS 3 hts gJ7_copyOf_1904c_J7_copyOf_6403c rfl rfl rfl (by decide +kernel) ⟨Nat.le_of_ble_eq_true rfl, Nat.le_of_ble_eq_true rfl⟩) (kv_preSLM hK hP hD hT hMi hS hA) rfl rfl hl.1 rfl (lv_room (Nat.le_of_ble_eq_true rfl)) dJ7_copyOf_1904c_6 ⟨Nat.le_of_ble_eq_true rfl, Nat.le_of_ble_eq_true rfl⟩) hD hS hA (fun ra H locs hP hD hS => ?_)
  exact W.aret (v := .ref ra) hx hb hr (Or.inr ⟨_, rfl⟩) (Or.inr ⟨_, rfl⟩) (fun t ht hW => ⟨⟨(), ra, rfl, trivial, ⟨by rw [ht]; exact hP, by rw [hAe]; exact hD⟩⟩, hS.F ht⟩) hS.2.2 dJ7_copyOf_1904c_9

set_option maxHeartbeats 4000000 in
set_option maxRecDepth 100000 in
theorem c_K_grow_a (l : Launch) (D : va_G) (ci : Nat → Nat) (aS : Nat) (a7 : Nat) (Bw : Int32 → Nat → Int32 → va_W) (hB : kv_isB a7 Bw) (mo : Int32) (M : va_W) (sz : Nat) : Met l yJx4a65c_grow_92f84 wsJx4a65c_grow_92f84 ({ frames := 3, cells := 1, slots := 10, locals := 104 } : Room) (va_Pc [.ref a7, .int 1] (kv_preL D ci aS (Bw mo aS 0 ++ M) sz)) (va_Qr (fun _ : Unit => True) (fun _ ra t => kv_post D (Bw mo aS 0 ++ M) sz (Bw mo ra 0 ++ ((ra, .inl (ci 2, 10, .inr (.inr (.inr (.inr (fun _ => none)))))) :: M)) t) (va_A (Bw mo aS 0 ++ M) sz)) 1 10 (va_A (Bw mo aS 0 ++ M) sz) := by
  refine Met.ofW (cc := cJx4a65c_grow_92f84) (maxL := 4) (ret := (some (.array (.object "java/lang/Object")))) (by decide) rfl ?_
  intro p en s m args below meth c s₁ B hml hv
  obtain ⟨hv0, ⟨hsz, hP, hK, hD0⟩, hT⟩ := hv
  have hx := B.exec
  have hb := B.bytes
  have hr := B.returns
  have hts := atoms_spec (ws := wsJx4a65c_grow_92f84) B.pre
  have hown : s.vm.findClass RJx4a65c = some m.cls := findClass_of_methodNamed B.named
  have hlocks := B.notSynchronized
  subst hsz
  have hD := hD0.self (sz := s.heap.size)
  generalize hAe : va_A (Bw mo aS 0 ++ M) s.heap.size = A at hD hT ⊢
  have hA : ∀ q : Nat, s.heap.size ≤ q → A q := fun q h => by rw [← hAe]; exact Or.inr h
  have hS : va_S A s.heap s.heap [] := va_S.rf
  have hP : va_P D vwCl (Bw mo aS 0 ++ M) s.heap := hP
  have hinRJx4a65c : ∀ w ∈ u_ws RJx4a65c TJx4a65c 3, w ∈ wsJx4a65c_grow_92f84 := by decide +kernel
  refine W.eq (show entryFrame m args 4 = _ from by rw [hv0, lg_entry_eq]) ?_
  have hl := lv_entry ([.ref a7, .int 1]) (n := 4) (Nat.le_of_ble_eq_true rfl)
  generalize (lg_sl ([.ref a7, .int 1]) ++ List.replicate (4 - (lg_sl ([.ref a7, .int 1])).length) Slot.unset).toArray = ls at hl ⊢
  have hl : lv_has ls 4 [(0, .ref a7), (1, .int 1)] := hl
  refine lv_aload_n hx hb dJx4a65c_grow_92f84_0 rfl (lv_at hl 0 rfl) ?_
  refine va_get (D := D) (ci := 0) (v := .ref aS) (C := RJx4a65c) (T := TJx4a65c) (N := 3) hx hb hts hinRJx4a65c hown hK hP 7 (kv_B7 hB) rfl 1 (by decide) (hts (.fieldLink RJx4a65c 9 "java/util/ArrayList" "elementData" "[Ljava/lang/Object;") (by decide +kernel)) (fun _ h9 => h9) rfl dJx4a65c_grow_92f84_1 ?_
  refine va_tlen (v := 0) hx hb hT.2.1 hS rfl dJx4a65c_grow_92f84_4 ?_
  refine lv_istore_n (lv' := [(2, .int 0), (0, .ref a7), (1, .int 1)]) hx hb dJx4a65c_grow_92f84_5 rfl hl (by decide) rfl (fun ls hl => ?_)
  refine lv_iload_n hx hb dJx4a65c_grow_92f84_6 rfl (lv_at hl 0 rfl) ?_
  refine lv_if_gt (tgt := 20) hx hb dJx4a65c_grow_92f84_7 (by decide) (fun c => absurd c (by decide)) (fun _ => ?_)
  refine lv_aload_n hx hb dJx4a65c_grow_92f84_10 rfl (lv_at hl 1 rfl) ?_
  refine va_get (D := D) (ci := 0) (v := .ref aS) (C := RJx4a65c) (T := TJx4a65c) (N := 3) hx hb hts hinRJx4a65c hown hK hP 7 (kv_B7 hB) rfl 1 (by decide) (hts (.fieldLink RJx4a65c 9 "java/util/ArrayList" "elementData" "[Ljava/lang/Object;") (by decide +kernel)) (fun _ h9 => h9) rfl dJx4a65c_grow_92f84_11 ?_
  refine va_gets hx hb hT.1 hS hown (hts (.fieldLink RJx4a65c 39 "java/util/ArrayList" "DEFAULTCAPACITY_EMPTY_ELEMENTDATA" "[Ljava/lang/Object;") (by decide +kernel)) (fun _ h9 => h9) dJx4a65c_grow_92f84_14 ?_
  refine lv_acmp_eq (rx := some aS) (ry := some aS) (tgt := 45) hx hb dJx4a65c_grow_92f84_17 (by decide) (fun _ => ?_) (fun c => absurd rfl c)
  refine lv_aload_n hx hb dJx4a65c_grow_92f84_45 rfl (lv_at hl 1 rfl) ?_
  refine lv_bipush (v := 10) hx hb dJx4a65c_grow_92f84_46 (by decide) ?_
  refine lv_iload_n hx hb dJx4a65c_grow_92f84_48 rfl (lv_at hl 2 rfl) ?_
  refine va_mmax hx hb (hml.trans hl.1.symm) hown (hts (.methodLink RJx4a65c 79 Lib.Math.max.name) (by decide +kernel)) (hts (.static Lib.Math.max.name) (by decide +kernel)) (hts (.initialized "java/lang/Math") (by decide +kernel)) (hts (.code Lib.Math.max.name Lib.Math.max.code 2 (some .int)) (by decide +kernel)) (Nat.le_of_ble_eq_true rfl) (Nat.le_of_ble_eq_true rfl) (Nat.le_of_ble_eq_true rfl) (Nat.le_of_ble_eq_true rfl) dJx4a65c_grow_92f84_49 ?_
  rw [show (if (10 : Int32) < 1 then (1 : Int32) else 10) = 10 from by decide]
  refine va_newq (N' := 10) hx hb hown (hts (.classLink RJx4a65c 7 "java/lang/Object") (by decide +kernel)) hT.2.2.2.2.1 hK hP hD hS hA (by decide) (by decide) (by decide) (Nat.le_of_ble_eq_true rfl) (Nat.le_of_ble_eq_true rfl) dJx4a65c_grow_92f84_52 (fun q cA H hK2 hP hD hS => ?_)
  obtain rfl := kv_cls2 hK2
  have hP := kv_rotP (X := Bw mo aS 0) (E := []) (M := M) hP
  have hD := kv_rotD (X := Bw mo aS 0) (E := []) (M := M) hD
  refine lv_dup_x1 hx hb dJx4a65c_grow_92f84_55 rfl rfl ?_
  refine va_put (D := D) (ci := 0) (v := .ref q) (ty := (.array (.object "java/lang/Object"))) (C := RJx4a65c) (T := TJx4a65c) (N := 3) hx hb hts hinRJx4a65c tyJx4a65c tyJx4a65c_ok nmJx4a65c hown hK hP hD hS 7 (kv_B7 hB) rfl 1 (by decide) (hts (.fieldLink RJx4a65c 9 "java/util/ArrayList" "elementData" "[Ljava/lang/Object;") (by decide +kernel)) (fun _ h9 => h9) rfl (by decide +kernel) rfl rfl (Nat.le_of_ble_eq_true rfl) dJx4a65c_grow_92f84_56 (fun H locs hP hD hS => ?_)
  have hP : va_P D vwCl (Bw mo q 0 ++ ((q, .inl (ci 2, 10, .inr (.inr (.inr (.inr (fun _ => none)))))) :: M)) H := by rw [← kv_Bs hB (mo := mo) (aE := aS) (nn := 0)]; exact hP
  have hD : va_D A (Bw mo q 0 ++ ((q, .inl (ci 2, 10, .inr (.inr (.inr (.inr (fun _ => none)))))) :: M)) := by rw [← kv_Bs hB (mo := mo) (aE := aS) (nn := 0)]; exact hD
  exact W.aret (v := .ref q) hx hb hr (Or.inr ⟨_, rfl⟩) (Or.inr ⟨_, rfl⟩) (fun t ht hW => ⟨⟨(), q, rfl, trivial, ⟨by rw [ht]; exact hP, by rw [hAe]; exact hD⟩⟩, hS.F ht⟩) hS.2.2 dJx4a65c_grow_92f84_59

set_option maxHeartbeats 4000000 in
set_option maxRecDepth 100000 in
theorem c_K_grow_b (l : Launch) (D : va_G) (ci : Nat → Nat) (aS : Nat) (a7 : Nat) (Bw : Int32 → Nat → Int32 → va_W) (hB : kv_isB a7 Bw) (mo : Int32) (M : va_W) (aE : Nat) (f : Nat → Option Nat) (hel : ∀ i, i < 10 → ∀ y, f i = some y → ∃ (qq : Nat) (fs : List Value), M[qq]? = some (y, .inr (2, fs))) (sz : Nat) : Met l yJx4a65c_grow_92f84 wsJx4a65c_grow_92f84 ({ frames := 3, cells := 1, slots := 15, locals := 104 } : Room) (va_Pc [.ref a7, .int 11] (kv_preL D ci aS (Bw mo aE 10 ++ ((aE, .inl (ci 2, 10, .inr (.inr (.inr (.inr f))))) :: M)) sz)) (va_Qr (fun _ : Unit => True) (fun _ ra t => kv_post D (Bw mo aE 10 ++ ((aE, .inl (ci 2, 10, .inr (.inr (.inr (.inr f))))) :: M)) sz (Bw mo ra 10 ++ ((ra, .inl (ci 2, 15, .inr (.inr (.inr (.inr (va_cpy f (fun _ => none) 0 0 10)))))) :: M)) t) (va_A (Bw mo aE 10 ++ ((aE, .inl (ci 2, 10, .inr (.inr (.inr (.inr f))))) :: M)) sz)) 1 15 (va_A (Bw mo aE 10 ++ ((aE, .inl (ci 2, 10, .inr (.inr (.inr (.inr f))))) :: M)) sz) := by
  refine Met.ofW (cc := cJx4a65c_grow_92f84) (maxL := 4) (ret := (some (.array (.object "java/lang/Object")))) (by decide) rfl ?_
  intro p en s m args below meth c s₁ B hml hv
  obtain ⟨hv0, ⟨hsz, hP, hK, hD0⟩, hT⟩ := hv
  have hx := B.exec
  have hb := B.bytes
  have hr := B.returns
  have hts := atoms_spec (ws := wsJx4a65c_grow_92f84) B.pre
  have hown : s.vm.findClass RJx4a65c = some m.cls := findClass_of_methodNamed B.named
  have hlocks := B.notSynchronized
  subst hsz
  have hD := hD0.self (sz := s.heap.size)
  generalize hAe : va_A (Bw mo aE 10 ++ ((aE, .inl (ci 2, 10, .inr (.inr (.inr (.inr f))))) :: M)) s.heap.size = A at hD hT ⊢
  have hA : ∀ q : Nat, s.heap.size ≤ q → A q := fun q h => by rw [← hAe]; exact Or.inr h
  have hS : va_S A s.heap s.heap [] := va_S.rf
  have hP : va_P D vwCl (Bw mo aE 10 ++ ((aE, .inl (ci 2, 10, .inr (.inr (.inr (.inr f))))) :: M)) s.heap := hP
  have hinRJx4a65c : ∀ w ∈ u_ws RJx4a65c TJx4a65c 3, w ∈ wsJx4a65c_grow_92f84 := by decide +kernel
  refine W.eq (show entryFrame m args 4 = _ from by rw [hv0, lg_entry_eq]) ?_
  have hl := lv_entry ([.ref a7, .int 11]) (n := 4) (Nat.le_of_ble_eq_true rfl)
  generalize (lg_sl ([.ref a7, .int 11]) ++ List.replicate (4 - (lg_sl ([.ref a7, .int 11])).length) Slot.unset).toArray = ls at hl ⊢
  have hl : lv_has ls 4 [(0, .ref a7), (1, .int 11)] := hl
  refine lv_aload_n hx hb dJx4a65c_grow_92f84_0 rfl (lv_at hl 0 rfl) ?_
  refine va_get (D := D) (ci := 0) (v := .ref aE) (C := RJx4a65c) (T := TJx4a65c) (N := 3) hx hb hts hinRJx4a65c hown hK hP 7 (kv_B7 hB) rfl 1 (by decide) (hts (.fieldLink RJx4a65c 9 "java/util/ArrayList" "elementData" "[Ljava/lang/Object;") (by decide +kernel)) (fun _ h9 => h9) rfl dJx4a65c_grow_92f84_1 ?_
  refine va_alen (v := 10) hx hb hK hP 23 2 (kv_B23 hB) rfl rfl dJx4a65c_grow_92f84_4 ?_
  refine lv_istore_n (lv' := [(2, .int 10), (0, .ref a7), (1, .int 11)]) hx hb dJx4a65c_grow_92f84_5 rfl hl (by decide) rfl (fun ls hl => ?_)
  refine lv_iload_n hx hb dJx4a65c_grow_92f84_6 rfl (lv_at hl 0 rfl) ?_
  refine lv_if_gt (tgt := 20) hx hb dJx4a65c_grow_92f84_7 (by decide) (fun _ => ?_) (fun c => absurd (by decide) c)
  refine lv_iload_n hx hb dJx4a65c_grow_92f84_20 rfl (lv_at hl 0 rfl) ?_
  refine lv_iload_n hx hb dJx4a65c_grow_92f84_21 rfl (lv_at hl 2 rfl) ?_
  refine lv_iload_n hx hb dJx4a65c_grow_92f84_22 rfl (lv_at hl 0 rfl) ?_
  refine lv_isub hx hb dJx4a65c_grow_92f84_23 ?_
  rw [show (11 : Int32) - 10 = 1 from by decide]
  refine lv_iload_n hx hb dJx4a65c_grow_92f84_24 rfl (lv_at hl 0 rfl) ?_
  refine lv_iconst (v := 1) hx hb dJx4a65c_grow_92f84_25 (by decide) ?_
  refine lv_ishr hx hb dJx4a65c_grow_92f84_26 ?_
  rw [show (10 : Int32) >>> ((1 : Int32) &&& 31) = 5 from by decide]
  refine kv_calli (va_runS (As := [.int 10, .int 1, .int 5]) (rest := []) ⟨hx, hb, hml, hown, hts⟩ (c_K_newLength l D ci (Bw mo aE 10 ++ ((aE, .inl (ci 2, 10, .inr (.inr (.inr (.inr f))))) :: M)) s.heap.size) (va_cwS 3 hts gJx4a65c_grow_92f84_J8_newLength_cabcc rfl rfl rfl (by decide +kernel) ⟨Nat.le_of_ble_eq_true rfl, Nat.le_of_ble_eq_true rfl⟩) (kv_preS hK hP hD) rfl rfl hl.1 rfl (lv_room (Nat.le_of_ble_eq_true rfl)) dJx4a65c_grow_92f84_27 ⟨Nat.le_of_ble_eq_true rfl, Nat.le_of_ble_eq_true rfl⟩) hD hS hA (fun r u H locs hw hP hD hS => ?_)
  subst hw
  refine lv_istore_n (lv' := [(3, .int 15), (2, .int 10), (0, .ref a7), (1, .int 11)]) hx hb dJx4a65c_grow_92f84_30 rfl hl (by decide) rfl (fun ls hl => ?_)
  refine lv_aload_n hx hb dJx4a65c_grow_92f84_31 rfl (lv_at hl 2 rfl) ?_
  refine lv_aload_n hx hb dJx4a65c_grow_92f84_32 rfl (lv_at hl 2 rfl) ?_
  refine va_get (D := D) (ci := 0) (v := .ref aE) (C := RJx4a65c) (T := TJx4a65c) (N := 3) hx hb hts hinRJx4a65c hown hK hP 7 (kv_B7 hB) rfl 1 (by decide) (hts (.fieldLink RJx4a65c 9 "java/util/ArrayList" "elementData" "[Ljava/lang/Object;") (by decide +kernel)) (fun _ h9 => h9) rfl dJx4a65c_grow_92f84_33 ?_
  refine lv_iload_n hx hb dJx4a65c_grow_92f84_36 rfl (lv_at hl 0 rfl) ?_
  refine kv_callr (va_runS (As := [.ref aE, .int 15]) (rest := [.ref a7]) ⟨hx, hb, hml, hown, hts⟩ (c_K_copyOf2 l D ci aS (Bw mo aE 10 ++ ((aE, .inl (ci 2, 10, .inr (.inr (.inr (.inr f))))) :: M)) 23 aE f (kv_B23 hB) (fun i hi y hy => kv_inM hB (hel i hi y hy)) H.size) (va_cwS 2 hts gJx4a65c_grow_92f84_J7_copyOf_1904c rfl rfl rfl (by decide +kernel) ⟨Nat.le_of_ble_eq_true rfl, Nat.le_of_ble_eq_true rfl⟩) (kv_preSL hK hP hD hT hS hA) rfl rfl hl.1 rfl (lv_room (Nat.le_of_ble_eq_true rfl)) dJx4a65c_grow_92f84_37 ⟨Nat.le_of_ble_eq_true rfl, Nat.le_of_ble_eq_true rfl⟩) hD hS hA (fun q H locs hP hD hS => ?_)
  have hP := kv_rotP (X := Bw mo aE 10) (E := [(aE, .inl (ci 2, 10, .inr (.inr (.inr (.inr f)))))]) (M := M) hP
  have hD := kv_rotD (X := Bw mo aE 10) (E := [(aE, .inl (ci 2, 10, .inr (.inr (.inr (.inr f)))))]) (M := M) hD
  refine lv_dup_x1 hx hb dJx4a65c_grow_92f84_40 rfl rfl ?_
  refine va_put (D := D) (ci := 0) (v := .ref q) (ty := (.array (.object "java/lang/Object"))) (C := RJx4a65c) (T := TJx4a65c) (N := 3) hx hb hts hinRJx4a65c tyJx4a65c tyJx4a65c_ok nmJx4a65c hown hK hP hD hS 7 (kv_B7 hB) rfl 1 (by decide) (hts (.fieldLink RJx4a65c 9 "java/util/ArrayList" "elementData" "[Ljava/lang/Object;") (by decide +kernel)) (fun _ h9 => h9) rfl (by decide +kernel) rfl rfl (Nat.le_of_ble_eq_true rfl) dJx4a65c_grow_92f84_41 (fun H locs hP hD hS => ?_)
  have hP : va_P D vwCl (Bw mo q 10 ++ ((q, .inl (ci 2, 15, .inr (.inr (.inr (.inr (va_cpy f (fun _ => none) 0 0 10)))))) :: M)) H := by rw [← kv_Bs hB (mo := mo) (aE := aE) (nn := 10)]; exact hP
  have hD : va_D A (Bw mo q 10 ++ ((q, .inl (ci 2, 15, .inr (.inr (.inr (.inr (va_cpy f (fun _ => none) 0 0 10)))))) :: M)) := by rw [← kv_Bs hB (mo := mo) (aE := aE) (nn := 10)]; exact hD
  exact W.aret (v := .ref q) hx hb hr (Or.inr ⟨_, rfl⟩) (Or.inr ⟨_, rfl⟩) (fun t ht hW => ⟨⟨(), q, rfl, trivial, ⟨by rw [ht]; exact hP, by rw [hAe]; exact hD⟩⟩, hS.F ht⟩) hS.2.2 dJx4a65c_grow_92f84_44

set_option maxHeartbeats 4000000 in
set_option maxRecDepth 100000 in
theorem c_K_grow0_a (l : Launch) (D : va_G) (ci : Nat → Nat) (aS : Nat) (a7 : Nat) (Bw : Int32 → Nat → Int32 → va_W) (hB : kv_isB a7 Bw) (mo : Int32) (M : va_W) (sz : Nat) : Met l yJx4a65c_grow_d5877 wsJx4a65c_grow_d5877 ({ frames := 4, cells := 1, slots := 10, locals := 127 } : Room) (va_Pc [.ref a7] (kv_preL D ci aS (Bw mo aS 0 ++ M) sz)) (va_Qr (fun _ : Unit => True) (fun _ ra t => kv_post D (Bw mo aS 0 ++ M) sz (Bw mo ra 0 ++ ((ra, .inl (ci 2, 10, .inr (.inr (.inr (.inr (fun _ => none)))))) :: M)) t) (va_A (Bw mo aS 0 ++ M) sz)) 1 10 (va_A (Bw mo aS 0 ++ M) sz) := by
  refine Met.ofW (cc := cJx4a65c_grow_d5877) (maxL := 1) (ret := (some (.array (.object "java/lang/Object")))) (by decide) rfl ?_
  intro p en s m args below meth c s₁ B hml hv
  obtain ⟨hv0, ⟨hsz, hP, hK, hD0⟩, hT⟩ := hv
  have hx := B.exec
  have hb := B.bytes
  have hr := B.returns
  have hts := atoms_spec (ws := wsJx4a65c_grow_d5877) B.pre
  have hown : s.vm.findClass RJx4a65c = some m.cls := findClass_of_methodNamed B.named
  have hlocks := B.notSynchronized
  subst hsz
  have hD := hD0.self (sz := s.heap.size)
  generalize hAe : va_A (Bw mo aS 0 ++ M) s.heap.size = A at hD hT ⊢
  have hA : ∀ q : Nat, s.heap.size ≤ q → A q := fun q h => by rw [← hAe]; exact Or.inr h
  have hS : va_S A s.heap s.heap [] := va_S.rf
  have hP : va_P D vwCl (Bw mo aS 0 ++ M) s.heap := hP
  have hinRJx4a65c : ∀ w ∈ u_ws RJx4a65c TJx4a65c 3, w ∈ wsJx4a65c_grow_d5877 := by decide +kernel
  refine W.eq (show entryFrame m args 1 = _ from by rw [hv0, lg_entry_eq]) ?_
  have hl := lv_entry ([.ref a7]) (n := 1) (Nat.le_of_ble_eq_true rfl)
  generalize (lg_sl ([.ref a7]) ++ List.replicate (1 - (lg_sl ([.ref a7])).length) Slot.unset).toArray = ls at hl ⊢
  have hl : lv_has ls 1 [(0, .ref a7)] := hl
  refine lv_aload_n hx hb dJx4a65c_grow_d5877_0 rfl (lv_at hl 0 rfl) ?_
  refine lv_aload_n hx hb dJx4a65c_grow_d5877_1 rfl (lv_at hl 0 rfl) ?_
  refine va_get (D := D) (ci := 0) (v := .int 0) (C := RJx4a65c) (T := TJx4a65c) (N := 3) hx hb hts hinRJx4a65c hown hK hP 7 (kv_B7 hB) rfl 2 (by decide) (hts (.fieldLink RJx4a65c 48 "java/util/ArrayList" "size" "I") (by decide +kernel)) (fun _ h9 => h9) rfl dJx4a65c_grow_d5877_2 ?_
  refine lv_iconst (v := 1) hx hb dJx4a65c_grow_d5877_5 (by decide) ?_
  refine lv_iadd hx hb dJx4a65c_grow_d5877_6 ?_
  rw [show (0 : Int32) + 1 = 1 from by decide]
  refine kv_callr (va_runV (As := [.int 1]) (rest := []) ⟨hx, hb, hml, hown, hts⟩ (c_K_grow_a l D ci aS a7 Bw hB mo M s.heap.size) (cwV 1 hts gJx4a65c_grow_d5877_Jx4a65c_grow_92f84 rfl rfl rfl (by decide +kernel) ⟨Nat.le_of_ble_eq_true rfl, Nat.le_of_ble_eq_true rfl⟩) (kv_preVL hK hP hD hT hS hA (r := (RJx4a65c, TJx4a65c, 3)) (q0 := 7) (k := 0) rfl rfl (kv_B7 hB)) rfl rfl hl.1 rfl (lv_room (Nat.le_of_ble_eq_true rfl)) dJx4a65c_grow_d5877_7 ⟨Nat.le_of_ble_eq_true rfl, Nat.le_of_ble_eq_true rfl⟩) hD hS hA (fun q H locs hP hD hS => ?_)
  exact W.aret (v := .ref q) hx hb hr (Or.inr ⟨_, rfl⟩) (Or.inr ⟨_, rfl⟩) (fun t ht hW => ⟨⟨(), q, rfl, trivial, ⟨by rw [ht]; exact hP, by rw [hAe]; exact hD⟩⟩, hS.F ht⟩) hS.2.2 dJx4a65c_grow_d5877_10

set_option maxHeartbeats 4000000 in
set_option maxRecDepth 100000 in
theorem c_K_grow0_b (l : Launch) (D : va_G) (ci : Nat → Nat) (aS : Nat) (a7 : Nat) (Bw : Int32 → Nat → Int32 → va_W) (hB : kv_isB a7 Bw) (mo : Int32) (M : va_W) (aE : Nat) (f : Nat → Option Nat) (hel : ∀ i, i < 10 → ∀ y, f i = some y → ∃ (qq : Nat) (fs : List Value), M[qq]? = some (y, .inr (2, fs))) (sz : Nat) : Met l yJx4a65c_grow_d5877 wsJx4a65c_grow_d5877 ({ frames := 4, cells := 1, slots := 15, locals := 127 } : Room) (va_Pc [.ref a7] (kv_preL D ci aS (Bw mo aE 10 ++ ((aE, .inl (ci 2, 10, .inr (.inr (.inr (.inr f))))) :: M)) sz)) (va_Qr (fun _ : Unit => True) (fun _ ra t => kv_post D (Bw mo aE 10 ++ ((aE, .inl (ci 2, 10, .inr (.inr (.inr (.inr f))))) :: M)) sz (Bw mo ra 10 ++ ((ra, .inl (ci 2, 15, .inr (.inr (.inr (.inr (va_cpy f (fun _ => none) 0 0 10)))))) :: M)) t) (va_A (Bw mo aE 10 ++ ((aE, .inl (ci 2, 10, .inr (.inr (.inr (.inr f))))) :: M)) sz)) 1 15 (va_A (Bw mo aE 10 ++ ((aE, .inl (ci 2, 10, .inr (.inr (.inr (.inr f))))) :: M)) sz) := by
  refine Met.ofW (cc := cJx4a65c_grow_d5877) (maxL := 1) (ret := (some (.array (.object "java/lang/Object")))) (by decide) rfl ?_
  intro p en s m args below meth c s₁ B hml hv
  obtain ⟨hv0, ⟨hsz, hP, hK, hD0⟩, hT⟩ := hv
  have hx := B.exec
  have hb := B.bytes
  have hr := B.returns
  have hts := atoms_spec (ws := wsJx4a65c_grow_d5877) B.pre
  have hown : s.vm.findClass RJx4a65c = some m.cls := findClass_of_methodNamed B.named
  have hlocks := B.notSynchronized
  subst hsz
  have hD := hD0.self (sz := s.heap.size)
  generalize hAe : va_A (Bw mo aE 10 ++ ((aE, .inl (ci 2, 10, .inr (.inr (.inr (.inr f))))) :: M)) s.heap.size = A at hD hT ⊢
  have hA : ∀ q : Nat, s.heap.size ≤ q → A q := fun q h => by rw [← hAe]; exact Or.inr h
  have hS : va_S A s.heap s.heap [] := va_S.rf
  have hP : va_P D vwCl (Bw mo aE 10 ++ ((aE, .inl (ci 2, 10, .inr (.inr (.inr (.inr f))))) :: M)) s.heap := hP
  have hinRJx4a65c : ∀ w ∈ u_ws RJx4a65c TJx4a65c 3, w ∈ wsJx4a65c_grow_d5877 := by decide +kernel
  refine W.eq (show entryFrame m args 1 = _ from by rw [hv0, lg_entry_eq]) ?_
  have hl := lv_entry ([.ref a7]) (n := 1) (Nat.le_of_ble_eq_true rfl)
  generalize (lg_sl ([.ref a7]) ++ List.replicate (1 - (lg_sl ([.ref a7])).length) Slot.unset).toArray = ls at hl ⊢
  have hl : lv_has ls 1 [(0, .ref a7)] := hl
  refine lv_aload_n hx hb dJx4a65c_grow_d5877_0 rfl (lv_at hl 0 rfl) ?_
  refine lv_aload_n hx hb dJx4a65c_grow_d5877_1 rfl (lv_at hl 0 rfl) ?_
  refine va_get (D := D) (ci := 0) (v := .int 10) (C := RJx4a65c) (T := TJx4a65c) (N := 3) hx hb hts hinRJx4a65c hown hK hP 7 (kv_B7 hB) rfl 2 (by decide) (hts (.fieldLink RJx4a65c 48 "java/util/ArrayList" "size" "I") (by decide +kernel)) (fun _ h9 => h9) rfl dJx4a65c_grow_d5877_2 ?_
  refine lv_iconst (v := 1) hx hb dJx4a65c_grow_d5877_5 (by decide) ?_
  refine lv_iadd hx hb dJx4a65c_grow_d5877_6 ?_
  rw [show (10 : Int32) + 1 = 11 from by decide]
  refine kv_callr (va_runV (As := [.int 11]) (rest := []) ⟨hx, hb, hml, hown, hts⟩ (c_K_grow_b l D ci aS a7 Bw hB mo M aE f hel s.heap.size) (cwV 1 hts gJx4a65c_grow_d5877_Jx4a65c_grow_92f84 rfl rfl rfl (by decide +kernel) ⟨Nat.le_of_ble_eq_true rfl, Nat.le_of_ble_eq_true rfl⟩) (kv_preVL hK hP hD hT hS hA (r := (RJx4a65c, TJx4a65c, 3)) (q0 := 7) (k := 0) rfl rfl (kv_B7 hB)) rfl rfl hl.1 rfl (lv_room (Nat.le_of_ble_eq_true rfl)) dJx4a65c_grow_d5877_7 ⟨Nat.le_of_ble_eq_true rfl, Nat.le_of_ble_eq_true rfl⟩) hD hS hA (fun q H locs hP hD hS => ?_)
  exact W.aret (v := .ref q) hx hb hr (Or.inr ⟨_, rfl⟩) (Or.inr ⟨_, rfl⟩) (fun t ht hW => ⟨⟨(), q, rfl, trivial, ⟨by rw [ht]; exact hP, by rw [hAe]; exact hD⟩⟩, hS.F ht⟩) hS.2.2 dJx4a65c_grow_d5877_10

set_option maxHeartbeats 4000000 in
set_option maxRecDepth 100000 in
theorem c_K_add3_a (l : Launch) (D : va_G) (ci : Nat → Nat) (aS : Nat) (a7 : Nat) (Bw : Int32 → Nat → Int32 → va_W) (hB : kv_isB a7 Bw) (mo : Int32) (M : va_W) (q k9 : Nat) (fs : List Value) (hq : M[k9]? = some (q, .inr (2, fs))) (sz : Nat) : Met l yJx4a65c_add_72be8 wsJx4a65c_add_72be8 ({ frames := 5, cells := 1, slots := 10, locals := 147 } : Room) (va_Pc [.ref a7, .ref q, .ref aS, .int 0] (kv_preL D ci aS (Bw mo aS 0 ++ M) sz)) (va_Qv (fun (_ : Nat) => True) (fun u t => kv_post D (Bw mo aS 0 ++ M) sz (Bw mo u 1 ++ ((u, .inl (ci 2, 10, .inr (.inr (.inr (.inr (va_up (fun _ => none) 0 (some q))))))) :: M)) t) (va_A (Bw mo aS 0 ++ M) sz)) 1 10 (va_A (Bw mo aS 0 ++ M) sz) := by
  refine Met.ofW (cc := cJx4a65c_add_72be8) (maxL := 4) (ret := none) (by decide) rfl ?_
  intro p en s m args below meth c s₁ B hml hv
  obtain ⟨hv0, ⟨hsz, hP, hK, hD0⟩, hT⟩ := hv
  have hx := B.exec
  have hb := B.bytes
  have hr := B.returns
  have hts := atoms_spec (ws := wsJx4a65c_add_72be8) B.pre
  have hown : s.vm.findClass RJx4a65c = some m.cls := findClass_of_methodNamed B.named
  have hlocks := B.notSynchronized
  subst hsz
  have hD := hD0.self (sz := s.heap.size)
  generalize hAe : va_A (Bw mo aS 0 ++ M) s.heap.size = A at hD hT ⊢
  have hA : ∀ q : Nat, s.heap.size ≤ q → A q := fun q h => by rw [← hAe]; exact Or.inr h
  have hS : va_S A s.heap s.heap [] := va_S.rf
  have hP : va_P D vwCl (Bw mo aS 0 ++ M) s.heap := hP
  have hinRJx4a65c : ∀ w ∈ u_ws RJx4a65c TJx4a65c 3, w ∈ wsJx4a65c_add_72be8 := by decide +kernel
  refine W.eq (show entryFrame m args 4 = _ from by rw [hv0, lg_entry_eq]) ?_
  have hl := lv_entry ([.ref a7, .ref q, .ref aS, .int 0]) (n := 4) (Nat.le_of_ble_eq_true rfl)
  generalize (lg_sl ([.ref a7, .ref q, .ref aS, .int 0]) ++ List.replicate (4 - (lg_sl ([.ref a7, .ref q, .ref aS, .int 0])).length) Slot.unset).toArray = ls at hl ⊢
  have hl : lv_has ls 4 [(0, .ref a7), (1, .ref q), (2, .ref aS), (3, .int 0)] := hl
  refine lv_iload_n hx hb dJx4a65c_add_72be8_0 rfl (lv_at hl 3 rfl) ?_
  refine lv_aload_n hx hb dJx4a65c_add_72be8_1 rfl (lv_at hl 2 rfl) ?_
  refine va_tlen (v := 0) hx hb hT.2.1 hS rfl dJx4a65c_add_72be8_2 ?_
  refine lv_icmp_ne (tgt := 11) hx hb dJx4a65c_add_72be8_3 (by decide) (fun c => absurd rfl c) (fun _ => ?_)
  refine lv_aload_n hx hb dJx4a65c_add_72be8_6 rfl (lv_at hl 0 rfl) ?_
  refine kv_callr (va_runV (As := []) (rest := []) ⟨hx, hb, hml, hown, hts⟩ (c_K_grow0_a l D ci aS a7 Bw hB mo M s.heap.size) (cwV 0 hts gJx4a65c_add_72be8_Jx4a65c_grow_d5877 rfl rfl rfl (by decide +kernel) ⟨Nat.le_of_ble_eq_true rfl, Nat.le_of_ble_eq_true rfl⟩) (kv_preVL hK hP hD hT hS hA (r := (RJx4a65c, TJx4a65c, 3)) (q0 := 7) (k := 0) rfl rfl (kv_B7 hB)) rfl rfl hl.1 rfl (lv_room (Nat.le_of_ble_eq_true rfl)) dJx4a65c_add_72be8_7 ⟨Nat.le_of_ble_eq_true rfl, Nat.le_of_ble_eq_true rfl⟩) hD hS hA (fun a2 H locs hP hD hS => ?_)
  refine lv_astore_n (lv' := [(2, .ref a2), (0, .ref a7), (1, .ref q), (3, .int 0)]) hx hb dJx4a65c_add_72be8_10 rfl hl (by decide) rfl (fun ls hl => ?_)
  have hl : lv_has ls 4 [(0, .ref a7), (1, .ref q), (2, .ref a2), (3, .int 0)] := lv_sub hl [1, 2, 0, 3] rfl
  refine lv_aload_n hx hb dJx4a65c_add_72be8_11 rfl (lv_at hl 2 rfl) ?_
  refine lv_iload_n hx hb dJx4a65c_add_72be8_12 rfl (lv_at hl 3 rfl) ?_
  refine lv_aload_n hx hb dJx4a65c_add_72be8_13 rfl (lv_at hl 1 rfl) ?_
  refine va_astqO (E := "java/lang/Object") (r := (RX1, TX1, 6)) hx hb hK hP hD hS 23 2 (23 + (k9 + 1)) 2 (kv_B23 hB) rfl hT.2.2.2.2.2 (kv_inM1 hB hq) rfl (by unfold vp_in; decide) dJx4a65c_add_72be8_14 (fun H locs hP hD hS => ?_)
  rw [kv_Bs23 hB] at hP hD
  rw [show (0 : Int32).toNatClampNeg = 0 from by decide] at hP hD
  refine lv_aload_n hx hb dJx4a65c_add_72be8_15 rfl (lv_at hl 0 rfl) ?_
  refine lv_iload_n hx hb dJx4a65c_add_72be8_16 rfl (lv_at hl 3 rfl) ?_
  refine lv_iconst (v := 1) hx hb dJx4a65c_add_72be8_17 (by decide) ?_
  refine lv_iadd hx hb dJx4a65c_add_72be8_18 ?_
  rw [show (0 : Int32) + 1 = 1 from by decide]
  refine va_put (D := D) (ci := 0) (v := .int 1) (ty := .int) (C := RJx4a65c) (T := TJx4a65c) (N := 3) hx hb hts hinRJx4a65c tyJx4a65c tyJx4a65c_ok nmJx4a65c hown hK hP hD hS 7 (kv_B7 hB) rfl 2 (by decide) (hts (.fieldLink RJx4a65c 48 "java/util/ArrayList" "size" "I") (by decide +kernel)) (fun _ h9 => h9) rfl (by decide +kernel) rfl rfl (Nat.le_of_ble_eq_true rfl) dJx4a65c_add_72be8_19 (fun H locs hP hD hS => ?_)
  have hP := kv_cong (f := fun w => va_P D vwCl w H) (kv_Bs hB) hP
  have hD := kv_cong (f := fun w => va_D A w) (kv_Bs hB) hD
  exact W.vret hx hb hr (fun t ht hW => ⟨⟨a2, rfl, trivial, ⟨by rw [ht]; exact hP, by rw [hAe]; exact hD⟩⟩, hS.F ht⟩) hS.2.2 dJx4a65c_add_72be8_22

set_option maxHeartbeats 4000000 in
set_option maxRecDepth 100000 in
theorem c_K_add3_b (l : Launch) (D : va_G) (ci : Nat → Nat) (aS : Nat) (a7 : Nat) (Bw : Int32 → Nat → Int32 → va_W) (hB : kv_isB a7 Bw) (mo : Int32) (M : va_W) (aE : Nat) (f : Nat → Option Nat) (hel : ∀ i, i < 10 → ∀ y, f i = some y → ∃ (qq : Nat) (fs : List Value), M[qq]? = some (y, .inr (2, fs))) (q k9 : Nat) (fs : List Value) (hq : M[k9]? = some (q, .inr (2, fs))) (sz : Nat) : Met l yJx4a65c_add_72be8 wsJx4a65c_add_72be8 ({ frames := 5, cells := 1, slots := 15, locals := 147 } : Room) (va_Pc [.ref a7, .ref q, .ref aE, .int 10] (kv_preL D ci aS (Bw mo aE 10 ++ ((aE, .inl (ci 2, 10, .inr (.inr (.inr (.inr f))))) :: M)) sz)) (va_Qv (fun (_ : Nat) => True) (fun u t => kv_post D (Bw mo aE 10 ++ ((aE, .inl (ci 2, 10, .inr (.inr (.inr (.inr f))))) :: M)) sz (Bw mo u 11 ++ ((u, .inl (ci 2, 15, .inr (.inr (.inr (.inr (va_up (va_cpy f (fun _ => none) 0 0 10) 10 (some q))))))) :: M)) t) (va_A (Bw mo aE 10 ++ ((aE, .inl (ci 2, 10, .inr (.inr (.inr (.inr f))))) :: M)) sz)) 1 15 (va_A (Bw mo aE 10 ++ ((aE, .inl (ci 2, 10, .inr (.inr (.inr (.inr f))))) :: M)) sz) := by
  refine Met.ofW (cc := cJx4a65c_add_72be8) (maxL := 4) (ret := none) (by decide) rfl ?_
  intro p en s m args below meth c s₁ B hml hv
  obtain ⟨hv0, ⟨hsz, hP, hK, hD0⟩, hT⟩ := hv
  have hx := B.exec
  have hb := B.bytes
  have hr := B.returns
  have hts := atoms_spec (ws := wsJx4a65c_add_72be8) B.pre
  have hown : s.vm.findClass RJx4a65c = some m.cls := findClass_of_methodNamed B.named
  have hlocks := B.notSynchronized
  subst hsz
  have hD := hD0.self (sz := s.heap.size)
  generalize hAe : va_A (Bw mo aE 10 ++ ((aE, .inl (ci 2, 10, .inr (.inr (.inr (.inr f))))) :: M)) s.heap.size = A at hD hT ⊢
  have hA : ∀ q : Nat, s.heap.size ≤ q → A q := fun q h => by rw [← hAe]; exact Or.inr h
  have hS : va_S A s.heap s.heap [] := va_S.rf
  have hP : va_P D vwCl (Bw mo aE 10 ++ ((aE, .inl (ci 2, 10, .inr (.inr (.inr (.inr f))))) :: M)) s.heap := hP
  have hinRJx4a65c : ∀ w ∈ u_ws RJx4a65c TJx4a65c 3, w ∈ wsJx4a65c_add_72be8 := by decide +kernel
  refine W.eq (show entryFrame m args 4 = _ from by rw [hv0, lg_entry_eq]) ?_
  have hl := lv_entry ([.ref a7, .ref q, .ref aE, .int 10]) (n := 4) (Nat.le_of_ble_eq_true rfl)
  generalize (lg_sl ([.ref a7, .ref q, .ref aE, .int 10]) ++ List.replicate (4 - (lg_sl ([.ref a7, .ref q, .ref aE, .int 10])).length) Slot.unset).toArray = ls at hl ⊢
  have hl : lv_has ls 4 [(0, .ref a7), (1, .ref q), (2, .ref aE), (3, .int 10)] := hl
  refine lv_iload_n hx hb dJx4a65c_add_72be8_0 rfl (lv_at hl 3 rfl) ?_
  refine lv_aload_n hx hb dJx4a65c_add_72be8_1 rfl (lv_at hl 2 rfl) ?_
  refine va_alen (v := 10) hx hb hK hP 23 2 (kv_B23 hB) rfl rfl dJx4a65c_add_72be8_2 ?_
  refine lv_icmp_ne (tgt := 11) hx hb dJx4a65c_add_72be8_3 (by decide) (fun c => absurd rfl c) (fun _ => ?_)
  refine lv_aload_n hx hb dJx4a65c_add_72be8_6 rfl (lv_at hl 0 rfl) ?_
  refine kv_callr (va_runV (As := []) (rest := []) ⟨hx, hb, hml, hown, hts⟩ (c_K_grow0_b l D ci aS a7 Bw hB mo M aE f hel s.heap.size) (cwV 0 hts gJx4a65c_add_72be8_Jx4a65c_grow_d5877 rfl rfl rfl (by decide +kernel) ⟨Nat.le_of_ble_eq_true rfl, Nat.le_of_ble_eq_true rfl⟩) (kv_preVL hK hP hD hT hS hA (r := (RJx4a65c, TJx4a65c, 3)) (q0 := 7) (k := 0) rfl rfl (kv_B7 hB)) rfl rfl hl.1 rfl (lv_room (Nat.le_of_ble_eq_true rfl)) dJx4a65c_add_72be8_7 ⟨Nat.le_of_ble_eq_true rfl, Nat.le_of_ble_eq_true rfl⟩) hD hS hA (fun a2 H locs hP hD hS => ?_)
  refine lv_astore_n (lv' := [(2, .ref a2), (0, .ref a7), (1, .ref q), (3, .int 10)]) hx hb dJx4a65c_add_72be8_10 rfl hl (by decide) rfl (fun ls hl => ?_)
  have hl : lv_has ls 4 [(0, .ref a7), (1, .ref q), (2, .ref a2), (3, .int 10)] := lv_sub hl [1, 2, 0, 3] rfl
  refine lv_aload_n hx hb dJx4a65c_add_72be8_11 rfl (lv_at hl 2 rfl) ?_
  refine lv_iload_n hx hb dJx4a65c_add_72be8_12 rfl (lv_at hl 3 rfl) ?_
  refine lv_aload_n hx hb dJx4a65c_add_72be8_13 rfl (lv_at hl 1 rfl) ?_
  refine va_astqO (E := "java/lang/Object") (r := (RX1, TX1, 6)) hx hb hK hP hD hS 23 2 (23 + (k9 + 1)) 2 (kv_B23 hB) rfl hT.2.2.2.2.2 (kv_inM1 hB hq) rfl (by unfold vp_in; decide) dJx4a65c_add_72be8_14 (fun H locs hP hD hS => ?_)
  rw [kv_Bs23 hB] at hP hD
  rw [show (10 : Int32).toNatClampNeg = 10 from by decide] at hP hD
  refine lv_aload_n hx hb dJx4a65c_add_72be8_15 rfl (lv_at hl 0 rfl) ?_
  refine lv_iload_n hx hb dJx4a65c_add_72be8_16 rfl (lv_at hl 3 rfl) ?_
  refine lv_iconst (v := 1) hx hb dJx4a65c_add_72be8_17 (by decide) ?_
  refine lv_iadd hx hb dJx4a65c_add_72be8_18 ?_
  rw [show (10 : Int32) + 1 = 11 from by decide]
  refine va_put (D := D) (ci := 0) (v := .int 11) (ty := .int) (C := RJx4a65c) (T := TJx4a65c) (N := 3) hx hb hts hinRJx4a65c tyJx4a65c tyJx4a65c_ok nmJx4a65c hown hK hP hD hS 7 (kv_B7 hB) rfl 2 (by decide) (hts (.fieldLink RJx4a65c 48 "java/util/ArrayList" "size" "I") (by decide +kernel)) (fun _ h9 => h9) rfl (by decide +kernel) rfl rfl (Nat.le_of_ble_eq_true rfl) dJx4a65c_add_72be8_19 (fun H locs hP hD hS => ?_)
  have hP := kv_cong (f := fun w => va_P D vwCl w H) (kv_Bs hB) hP
  have hD := kv_cong (f := fun w => va_D A w) (kv_Bs hB) hD
  exact W.vret hx hb hr (fun t ht hW => ⟨⟨a2, rfl, trivial, ⟨by rw [ht]; exact hP, by rw [hAe]; exact hD⟩⟩, hS.F ht⟩) hS.2.2 dJx4a65c_add_72be8_22

set_option maxHeartbeats 4000000 in
set_option maxRecDepth 100000 in
theorem c_K_add3_c (l : Launch) (D : va_G) (ci : Nat → Nat) (aS : Nat) (a7 : Nat) (Bw : Int32 → Nat → Int32 → va_W) (hB : kv_isB a7 Bw) (mo : Int32) (M : va_W) (aE n cap : Nat) (f : Nat → Option Nat) (hn : n < cap) (hc : cap < 100) (q k9 : Nat) (fs : List Value) (hq : M[k9]? = some (q, .inr (2, fs))) (sz : Nat) : Met l yJx4a65c_add_72be8 wsJx4a65c_add_72be8 ({ frames := 5, cells := 0, slots := 0, locals := 147 } : Room) (va_Pc [.ref a7, .ref q, .ref aE, .int (nI n)] (kv_preL D ci aS (Bw mo aE (nI n) ++ ((aE, .inl (ci 2, cap, .inr (.inr (.inr (.inr f))))) :: M)) sz)) (va_Qv (fun (_ : Unit) => True) (fun u t => kv_post D (Bw mo aE (nI n) ++ ((aE, .inl (ci 2, cap, .inr (.inr (.inr (.inr f))))) :: M)) sz (Bw mo aE (nI (n + 1)) ++ ((aE, .inl (ci 2, cap, .inr (.inr (.inr (.inr (va_up f n (some q))))))) :: M)) t) (va_A (Bw mo aE (nI n) ++ ((aE, .inl (ci 2, cap, .inr (.inr (.inr (.inr f))))) :: M)) sz)) 0 0 (va_A (Bw mo aE (nI n) ++ ((aE, .inl (ci 2, cap, .inr (.inr (.inr (.inr f))))) :: M)) sz) := by
  refine Met.ofW (cc := cJx4a65c_add_72be8) (maxL := 4) (ret := none) (by decide) rfl ?_
  intro p en s m args below meth c s₁ B hml hv
  obtain ⟨hv0, ⟨hsz, hP, hK, hD0⟩, hT⟩ := hv
  have hx := B.exec
  have hb := B.bytes
  have hr := B.returns
  have hts := atoms_spec (ws := wsJx4a65c_add_72be8) B.pre
  have hown : s.vm.findClass RJx4a65c = some m.cls := findClass_of_methodNamed B.named
  have hlocks := B.notSynchronized
  subst hsz
  have hD := hD0.self (sz := s.heap.size)
  generalize hAe : va_A (Bw mo aE (nI n) ++ ((aE, .inl (ci 2, cap, .inr (.inr (.inr (.inr f))))) :: M)) s.heap.size = A at hD hT ⊢
  have hA : ∀ q : Nat, s.heap.size ≤ q → A q := fun q h => by rw [← hAe]; exact Or.inr h
  have hS : va_S A s.heap s.heap [] := va_S.rf
  have hP : va_P D vwCl (Bw mo aE (nI n) ++ ((aE, .inl (ci 2, cap, .inr (.inr (.inr (.inr f))))) :: M)) s.heap := hP
  have hinRJx4a65c : ∀ w ∈ u_ws RJx4a65c TJx4a65c 3, w ∈ wsJx4a65c_add_72be8 := by decide +kernel
  refine W.eq (show entryFrame m args 4 = _ from by rw [hv0, lg_entry_eq]) ?_
  have hl := lv_entry ([.ref a7, .ref q, .ref aE, .int (nI n)]) (n := 4) (Nat.le_of_ble_eq_true rfl)
  generalize (lg_sl ([.ref a7, .ref q, .ref aE, .int (nI n)]) ++ List.replicate (4 - (lg_sl ([.ref a7, .ref q, .ref aE, .int (nI n)])).length) Slot.unset).toArray = ls at hl ⊢
  have hl : lv_has ls 4 [(0, .ref a7), (1, .ref q), (2, .ref aE), (3, .int (nI n))] := hl
  refine lv_iload_n hx hb dJx4a65c_add_72be8_0 rfl (lv_at hl 3 rfl) ?_
  refine lv_aload_n hx hb dJx4a65c_add_72be8_1 rfl (lv_at hl 2 rfl) ?_
  refine va_alen (v := nI cap) hx hb hK hP 23 2 (kv_B23 hB) rfl rfl dJx4a65c_add_72be8_2 ?_
  refine lv_icmp_ne (tgt := 11) hx hb dJx4a65c_add_72be8_3 (by decide) (fun _ => ?_) (fun c => absurd ((nI_eq (by omega) (by omega)).mp c) (by omega))
  refine lv_aload_n hx hb dJx4a65c_add_72be8_11 rfl (lv_at hl 2 rfl) ?_
  refine lv_iload_n hx hb dJx4a65c_add_72be8_12 rfl (lv_at hl 3 rfl) ?_
  refine lv_aload_n hx hb dJx4a65c_add_72be8_13 rfl (lv_at hl 1 rfl) ?_
  refine va_astqO (E := "java/lang/Object") (r := (RX1, TX1, 6)) hx hb hK hP hD hS 23 2 (23 + (k9 + 1)) 2 (kv_B23 hB) rfl hT.2.2.2.2.2 (kv_inM1 hB hq) rfl (vp_in_nI (by omega) (by omega)) dJx4a65c_add_72be8_14 (fun H locs hP hD hS => ?_)
  rw [kv_Bs23 hB] at hP hD
  rw [nI_clamp (by omega)] at hP hD
  refine lv_aload_n hx hb dJx4a65c_add_72be8_15 rfl (lv_at hl 0 rfl) ?_
  refine lv_iload_n hx hb dJx4a65c_add_72be8_16 rfl (lv_at hl 3 rfl) ?_
  refine lv_iconst (v := 1) hx hb dJx4a65c_add_72be8_17 (by decide) ?_
  refine lv_iadd hx hb dJx4a65c_add_72be8_18 ?_
  rw [nI_1 n]
  refine va_put (D := D) (ci := 0) (v := .int (nI (n + 1))) (ty := .int) (C := RJx4a65c) (T := TJx4a65c) (N := 3) hx hb hts hinRJx4a65c tyJx4a65c tyJx4a65c_ok nmJx4a65c hown hK hP hD hS 7 (kv_B7 hB) rfl 2 (by decide) (hts (.fieldLink RJx4a65c 48 "java/util/ArrayList" "size" "I") (by decide +kernel)) (fun _ h9 => h9) rfl (by decide +kernel) rfl rfl (Nat.le_of_ble_eq_true rfl) dJx4a65c_add_72be8_19 (fun H locs hP hD hS => ?_)
  have hP := kv_cong (f := fun w => va_P D vwCl w H) (kv_Bs hB) hP
  have hD := kv_cong (f := fun w => va_D A w) (kv_Bs hB) hD
  exact W.vret hx hb hr (fun t ht hW => ⟨⟨(), rfl, trivial, ⟨by rw [ht]; exact hP, by rw [hAe]; exact hD⟩⟩, hS.F ht⟩) hS.2.2 dJx4a65c_add_72be8_22

theorem kv_els_up {n : Nat} {pa : Nat → Nat} {q : Nat} : va_up (kv_els n pa) n (some q) = kv_els (n + 1) (va_up pa n q) := by
  funext i
  show (if i = n then some q else if i < n then some (pa i) else none) = if i < n + 1 then some (if i = n then q else pa i) else none
  by_cases e : i = n
  · subst e; rw [if_pos rfl, if_pos (by omega), if_pos rfl]
  · rw [if_neg e, if_neg e]
    by_cases h : i < n
    · rw [if_pos h, if_pos (by omega)]
    · rw [if_neg h, if_neg (by omega)]
theorem kv_els_0 {pa : Nat → Nat} : (fun _ => none) = kv_els 0 pa := by
  funext i
  exact (if_neg (by omega)).symm
theorem kv_els_cpy {n : Nat} {pa : Nat → Nat} : va_cpy (kv_els n pa) (fun _ => none) 0 0 n = kv_els n pa := by
  funext i
  unfold va_cpy kv_els
  by_cases h : i < n
  · rw [if_pos ⟨Nat.zero_le _, by omega⟩, if_pos h, if_pos (by omega)]; simp
  · rw [if_neg (by omega), if_neg h]
theorem kv_rights_up {n : Nat} {pa : Nat → Nat} {qp qm ql qv qc qe : Nat → Int32} {q : Nat} {v0 v1 v2 v3 v4 v5 : Int32} : kv_rights n pa qp qm ql qv qc qe ++ [(q, .inr (2, [.int v0, .int v1, .int v2, .int v3, .int v4, .int v5]))] = kv_rights (n + 1) (va_up pa n q) (upd qp n v0) (upd qm n v1) (upd ql n v2) (upd qv n v3) (upd qc n v4) (upd qe n v5) := by
  unfold kv_rights
  rw [List.range_succ, List.map_append]
  congr 1
  · apply List.map_congr_left
    intro i hi
    have hne : i ≠ n := by have := List.mem_range.mp hi; omega
    simp only [va_up, upd, if_neg hne]
  · simp [va_up, upd]
def kv_kb (ci ad : Nat → Nat) (kc kh ks : Nat → Int32) (fo : Nat → Nat → Int32) (kl kp : Nat → Int32) (dy : Int32) (mt mv sw : Nat → Int32) (hv : Int32) (tk tn sc : Nat → Int32) : Int32 → Nat → Int32 → va_W := fun mo aE nn => [((ad 0), .inr (3, [.ref (ad 1), .ref (ad 2), .ref (ad 3), .ref (ad 4), .ref (ad 5), .ref (ad 6), .ref (ad 7), .ref (ad 8), .int dy])),
  ((ad 1), .inl (ci 0, 8, .inl kc)),
  ((ad 2), .inl (ci 0, 8, .inl kh)),
  ((ad 3), .inl (ci 0, 8, .inl ks)),
  ((ad 4), .inl (ci 3, 8, .inr (.inr (.inr (.inr (kv_outer ad)))))),
  ((ad 5), .inl (ci 0, 4, .inl kl)),
  ((ad 6), .inl (ci 0, 4, .inl kp)),
  ((ad 7), .inr (0, [.int mo, .ref aE, .int nn])),
  ((ad 8), .inr (1, [.ref (ad 9), .ref (ad 10), .ref (ad 11), .int hv, .ref (ad 12), .ref (ad 13), .ref (ad 14)])),
  ((ad 9), .inl (ci 0, 8, .inl mt)),
  ((ad 10), .inl (ci 0, 8, .inl mv)),
  ((ad 11), .inl (ci 0, 256, .inl sw)),
  ((ad 12), .inl (ci 0, 256, .inl tk)),
  ((ad 13), .inl (ci 0, 256, .inl tn)),
  ((ad 14), .inl (ci 0, 256, .inl sc)),
  (ad 16, .inl (ci 0, 4, .inl (fo 0))),
  (ad 17, .inl (ci 0, 4, .inl (fo 1))),
  (ad 18, .inl (ci 0, 4, .inl (fo 2))),
  (ad 19, .inl (ci 0, 4, .inl (fo 3))),
  (ad 20, .inl (ci 0, 4, .inl (fo 4))),
  (ad 21, .inl (ci 0, 4, .inl (fo 5))),
  (ad 22, .inl (ci 0, 4, .inl (fo 6))),
  (ad 23, .inl (ci 0, 4, .inl (fo 7)))]
theorem kv_kb_is {ci ad : Nat → Nat} {kc kh ks : Nat → Int32} {fo : Nat → Nat → Int32} {kl kp : Nat → Int32} {dy : Int32} {mt mv sw : Nat → Int32} {hv : Int32} {tk tn sc : Nat → Int32} : kv_isB (ad 7) (kv_kb ci ad kc kh ks fo kl kp dy mt mv sw hv tk tn sc) := ⟨fun _ _ _ => rfl, fun _ _ _ => rfl, fun _ _ _ _ _ _ => rfl⟩
theorem kv_kw_kb {ci ad : Nat → Nat} {kc : Nat → Int32} {kh : Nat → Int32} {ks : Nat → Int32} {fo : Nat → Nat → Int32} {kl : Nat → Int32} {kp : Nat → Int32} {dy : Int32} {mo : Int32} {n : Nat} {pa : Nat → Nat} {aE : Nat} {qp : Nat → Int32} {qm : Nat → Int32} {ql : Nat → Int32} {qv : Nat → Int32} {qc : Nat → Int32} {qe : Nat → Int32} {mt : Nat → Int32} {mv : Nat → Int32} {sw : Nat → Int32} {hv : Int32} {tk : Nat → Int32} {tn : Nat → Int32} {sc : Nat → Int32} : kv_kw ci ad kc kh ks fo kl kp dy mo n pa aE qp qm ql qv qc qe mt mv sw hv tk tn sc = kv_kb ci ad kc kh ks fo kl kp dy mt mv sw hv tk tn sc mo aE (nI n) ++ (kv_ed ci n pa aE ++ kv_rights n pa qp qm ql qv qc qe) := rfl
theorem kv_cap_up {n : Nat} (h0 : 0 < n) (h : n ≠ 10) : kv_cap n = kv_cap (n + 1) := by
  unfold kv_cap
  by_cases c : n ≤ 10
  · rw [if_pos c, if_pos (by omega)]
  · rw [if_neg c, if_neg (by omega)]
theorem kv_rights_at {n : Nat} {pa : Nat → Nat} {qp qm ql qv qc qe : Nat → Int32} {i : Nat} (h : i < n) : (kv_rights n pa qp qm ql qv qc qe)[i]? = some (pa i, .inr (2, [.int (qp i), .int (qm i), .int (ql i), .int (qv i), .int (qc i), .int (qe i)])) := by
  unfold kv_rights
  rw [List.getElem?_map, List.getElem?_range h]
  rfl
theorem kv_M_el {n : Nat} {pa : Nat → Nat} {qp qm ql qv qc qe : Nat → Int32} {T : va_W} {i y : Nat} (hi : i < n) (hy : kv_els n pa i = some y) : ∃ (qq : Nat) (fs : List Value), (kv_rights n pa qp qm ql qv qc qe ++ T)[qq]? = some (y, .inr (2, fs)) := by
  have e : y = pa i := (Option.some.inj ((if_pos hi).symm.trans hy)).symm
  subst e
  exact ⟨i, _, (List.getElem?_append_left (List.getElem?_eq_some_iff.mp (kv_rights_at (pa := pa) (qp := qp) (qm := qm) (ql := ql) (qv := qv) (qc := qc) (qe := qe) hi)).1).trans (kv_rights_at hi)⟩
theorem kv_rights_len {n : Nat} {pa : Nat → Nat} {qp qm ql qv qc qe : Nat → Int32} : (kv_rights n pa qp qm ql qv qc qe).length = n := by
  unfold kv_rights
  rw [List.length_map, List.length_range]

set_option maxHeartbeats 4000000 in
set_option maxRecDepth 100000 in
theorem c_K_add (l : Launch) (D : va_G) (ci ad : Nat → Nat) (aS : Nat) (kc : Nat → Int32) (kh : Nat → Int32) (ks : Nat → Int32) (fo : Nat → Nat → Int32) (kl : Nat → Int32) (kp : Nat → Int32) (dy : Int32) (mo : Int32) (n : Nat) (pa : Nat → Nat) (aE : Nat) (qp : Nat → Int32) (qm : Nat → Int32) (ql : Nat → Int32) (qv : Nat → Int32) (qc : Nat → Int32) (qe : Nat → Int32) (mt : Nat → Int32) (mv : Nat → Int32) (sw : Nat → Int32) (hv : Int32) (tk : Nat → Int32) (tn : Nat → Int32) (sc : Nat → Int32) (q : Nat) (v0 v1 v2 v3 v4 v5 : Int32) (hn12 : n < 12) (hE : n = 0 → aE = aS) (sz : Nat) : Met l yJx4a65c_add_9ea2d wsJx4a65c_add_9ea2d ({ frames := 6, cells := 1, slots := 15, locals := 170 } : Room) (va_Pc [.ref (ad 7), .ref q] (kv_preL D ci aS (kv_kw ci ad kc kh ks fo kl kp dy mo n pa aE qp qm ql qv qc qe mt mv sw hv tk tn sc ++ [((q, .inr (2, [.int v0, .int v1, .int v2, .int v3, .int v4, .int v5])) : Nat × va_E)]) sz)) (va_Qi (fun (r : Int32) (_ : Nat) => r = 1) (fun u t => kv_post D (kv_kw ci ad kc kh ks fo kl kp dy mo n pa aE qp qm ql qv qc qe mt mv sw hv tk tn sc ++ [((q, .inr (2, [.int v0, .int v1, .int v2, .int v3, .int v4, .int v5])) : Nat × va_E)]) sz (kv_kw ci ad kc kh ks fo kl kp dy (mo + 1) (n + 1) (va_up pa n q) u (upd qp n v0) (upd qm n v1) (upd ql n v2) (upd qv n v3) (upd qc n v4) (upd qe n v5) mt mv sw hv tk tn sc) t) (va_A (kv_kw ci ad kc kh ks fo kl kp dy mo n pa aE qp qm ql qv qc qe mt mv sw hv tk tn sc ++ [((q, .inr (2, [.int v0, .int v1, .int v2, .int v3, .int v4, .int v5])) : Nat × va_E)]) sz)) 1 15 (va_A (kv_kw ci ad kc kh ks fo kl kp dy mo n pa aE qp qm ql qv qc qe mt mv sw hv tk tn sc ++ [((q, .inr (2, [.int v0, .int v1, .int v2, .int v3, .int v4, .int v5])) : Nat × va_E)]) sz) := by
  refine Met.ofW (cc := cJx4a65c_add_9ea2d) (maxL := 2) (ret := (some .boolean)) (by decide) rfl ?_
  intro p en s m args below meth c s₁ B hml hv
  obtain ⟨hv0, ⟨hsz, hP, hK, hD0⟩, hT⟩ := hv
  have hx := B.exec
  have hb := B.bytes
  have hr := B.returns
  have hts := atoms_spec (ws := wsJx4a65c_add_9ea2d) B.pre
  have hown : s.vm.findClass RJx4a65c = some m.cls := findClass_of_methodNamed B.named
  have hlocks := B.notSynchronized
  subst hsz
  have hD := hD0.self (sz := s.heap.size)
  generalize hAe : va_A (kv_kw ci ad kc kh ks fo kl kp dy mo n pa aE qp qm ql qv qc qe mt mv sw hv tk tn sc ++ [((q, .inr (2, [.int v0, .int v1, .int v2, .int v3, .int v4, .int v5])) : Nat × va_E)]) s.heap.size = A at hD hT ⊢
  have hA : ∀ q : Nat, s.heap.size ≤ q → A q := fun q h => by rw [← hAe]; exact Or.inr h
  have hS : va_S A s.heap s.heap [] := va_S.rf
  have hP : va_P D vwCl (kv_kw ci ad kc kh ks fo kl kp dy mo n pa aE qp qm ql qv qc qe mt mv sw hv tk tn sc ++ [((q, .inr (2, [.int v0, .int v1, .int v2, .int v3, .int v4, .int v5])) : Nat × va_E)]) s.heap := hP
  have hinRJx4a65c : ∀ w ∈ u_ws RJx4a65c TJx4a65c 3, w ∈ wsJx4a65c_add_9ea2d := by decide +kernel
  refine W.eq (show entryFrame m args 2 = _ from by rw [hv0, lg_entry_eq]) ?_
  have hl := lv_entry ([.ref (ad 7), .ref q]) (n := 2) (Nat.le_of_ble_eq_true rfl)
  generalize (lg_sl ([.ref (ad 7), .ref q]) ++ List.replicate (2 - (lg_sl ([.ref (ad 7), .ref q])).length) Slot.unset).toArray = ls at hl ⊢
  have hl : lv_has ls 2 [(0, .ref (ad 7)), (1, .ref q)] := hl
  have hwe : (kv_kw ci ad kc kh ks fo kl kp dy mo n pa aE qp qm ql qv qc qe mt mv sw hv tk tn sc ++ [((q, .inr (2, [.int v0, .int v1, .int v2, .int v3, .int v4, .int v5])) : Nat × va_E)]) = kv_kb ci ad kc kh ks fo kl kp dy mt mv sw hv tk tn sc mo aE (nI n) ++ (kv_ed ci n pa aE ++ (kv_rights n pa qp qm ql qv qc qe ++ [((q, .inr (2, [.int v0, .int v1, .int v2, .int v3, .int v4, .int v5])) : Nat × va_E)])) := by rw [kv_kw_kb, List.append_assoc, List.append_assoc]
  have hP : va_P D vwCl (kv_kb ci ad kc kh ks fo kl kp dy mt mv sw hv tk tn sc mo aE (nI n) ++ (kv_ed ci n pa aE ++ (kv_rights n pa qp qm ql qv qc qe ++ [((q, .inr (2, [.int v0, .int v1, .int v2, .int v3, .int v4, .int v5])) : Nat × va_E)]))) s.heap := hwe ▸ hP
  have hD : va_D A (kv_kb ci ad kc kh ks fo kl kp dy mt mv sw hv tk tn sc mo aE (nI n) ++ (kv_ed ci n pa aE ++ (kv_rights n pa qp qm ql qv qc qe ++ [((q, .inr (2, [.int v0, .int v1, .int v2, .int v3, .int v4, .int v5])) : Nat × va_E)]))) := hwe ▸ hD
  refine lv_aload_n hx hb dJx4a65c_add_9ea2d_0 rfl (lv_at hl 0 rfl) ?_
  refine lv_dup hx hb dJx4a65c_add_9ea2d_1 rfl ?_
  refine va_get (D := D) (ci := 0) (v := .int mo) (C := RJx4a65c) (T := TJx4a65c) (N := 3) hx hb hts hinRJx4a65c hown hK hP 7 (kv_B7 kv_kb_is) rfl 0 (by decide) (hts (.fieldLink RJx4a65c 63 "java/util/ArrayList" "modCount" "I") (by decide +kernel)) (u_same (hts (.sameField "java/util/ArrayList" "java/util/AbstractList" "modCount" "I") (by decide +kernel))) rfl dJx4a65c_add_9ea2d_2 ?_
  refine lv_iconst (v := 1) hx hb dJx4a65c_add_9ea2d_5 (by decide) ?_
  refine lv_iadd hx hb dJx4a65c_add_9ea2d_6 ?_
  refine va_put (D := D) (ci := 0) (v := .int (mo + 1)) (ty := .int) (C := RJx4a65c) (T := TJx4a65c) (N := 3) hx hb hts hinRJx4a65c tyJx4a65c tyJx4a65c_ok nmJx4a65c hown hK hP hD hS 7 (kv_B7 kv_kb_is) rfl 0 (by decide) (hts (.fieldLink RJx4a65c 63 "java/util/ArrayList" "modCount" "I") (by decide +kernel)) (u_same (hts (.sameField "java/util/ArrayList" "java/util/AbstractList" "modCount" "I") (by decide +kernel))) rfl (by decide +kernel) rfl rfl (Nat.le_of_ble_eq_true rfl) dJx4a65c_add_9ea2d_7 (fun H locs hP hD hS => ?_)
  have hP := kv_cong (f := fun w => va_P D vwCl w H) (kv_Bs kv_kb_is) hP
  have hD := kv_cong (f := fun w => va_D A w) (kv_Bs kv_kb_is) hD
  refine lv_aload_n hx hb dJx4a65c_add_9ea2d_10 rfl (lv_at hl 0 rfl) ?_
  refine lv_aload_n hx hb dJx4a65c_add_9ea2d_11 rfl (lv_at hl 1 rfl) ?_
  refine lv_aload_n hx hb dJx4a65c_add_9ea2d_12 rfl (lv_at hl 0 rfl) ?_
  refine va_get (D := D) (ci := 0) (v := .ref aE) (C := RJx4a65c) (T := TJx4a65c) (N := 3) hx hb hts hinRJx4a65c hown hK hP 7 (kv_B7 kv_kb_is) rfl 1 (by decide) (hts (.fieldLink RJx4a65c 9 "java/util/ArrayList" "elementData" "[Ljava/lang/Object;") (by decide +kernel)) (fun _ h9 => h9) rfl dJx4a65c_add_9ea2d_13 ?_
  refine lv_aload_n hx hb dJx4a65c_add_9ea2d_16 rfl (lv_at hl 0 rfl) ?_
  refine va_get (D := D) (ci := 0) (v := .int (nI n)) (C := RJx4a65c) (T := TJx4a65c) (N := 3) hx hb hts hinRJx4a65c hown hK hP 7 (kv_B7 kv_kb_is) rfl 2 (by decide) (hts (.fieldLink RJx4a65c 48 "java/util/ArrayList" "size" "I") (by decide +kernel)) (fun _ h9 => h9) rfl dJx4a65c_add_9ea2d_17 ?_
  have hqM : (kv_rights n pa qp qm ql qv qc qe ++ [((q, .inr (2, [.int v0, .int v1, .int v2, .int v3, .int v4, .int v5])) : Nat × va_E)])[n]? = some (q, .inr (2, [.int v0, .int v1, .int v2, .int v3, .int v4, .int v5])) := by rw [List.getElem?_append_right (by rw [kv_rights_len]; exact Nat.le_refl _), kv_rights_len, Nat.sub_self]; rfl
  have fin : ∀ (u : Nat) (H : Heap) (locs : List Loc) (k j : Nat), k ≤ 1 → j ≤ 15 → va_P D vwCl (kv_kw ci ad kc kh ks fo kl kp dy (mo + 1) (n + 1) (va_up pa n q) u (upd qp n v0) (upd qm n v1) (upd ql n v2) (upd qv n v3) (upd qc n v4) (upd qe n v5) mt mv sw hv tk tn sc) H → va_D A (kv_kw ci ad kc kh ks fo kl kp dy (mo + 1) (n + 1) (va_up pa n q) u (upd qp n v0) (upd qm n v1) (upd ql n v2) (upd qv n v3) (upd qc n v4) (upd qe n v5) mt mv sw hv tk tn sc) → va_S A s.heap H locs → W p l en (headSpec wsJx4a65c_add_9ea2d ({ frames := 6, cells := 1, slots := 15, locals := 170 } : Room)).room s m args below meth c H locs k j (MQ below (va_Qi (fun (r : Int32) (_ : Nat) => r = 1) (fun u t => kv_post D (kv_kw ci ad kc kh ks fo kl kp dy mo n pa aE qp qm ql qv qc qe mt mv sw hv tk tn sc ++ [((q, .inr (2, [.int v0, .int v1, .int v2, .int v3, .int v4, .int v5])) : Nat × va_E)]) s.heap.size (kv_kw ci ad kc kh ks fo kl kp dy (mo + 1) (n + 1) (va_up pa n q) u (upd qp n v0) (upd qm n v1) (upd ql n v2) (upd qv n v3) (upd qc n v4) (upd qe n v5) mt mv sw hv tk tn sc) t) A) args s 1 15 A) (F0 m 23 ls []) := by
    intro u H locs k j hk hj hP hD hS
    refine lv_iconst (v := 1) hx hb dJx4a65c_add_9ea2d_23 (by decide) ?_
    refine W.widen (k := 1) (n := 15) hk hj ?_
    exact W.zret (v := 1) hx hb hr (by decide +kernel) (fun t ht hW => ⟨⟨1, u, rfl, rfl, ⟨by rw [ht]; exact hP, by rw [hAe]; exact hD⟩⟩, hS.F ht⟩) hS.2.2 dJx4a65c_add_9ea2d_24
  by_cases hn0 : n = 0
  · subst hn0
    obtain rfl := hE rfl
    refine kv_callv (va_runV (As := [.ref q, .ref aE, .int 0]) (rest := []) ⟨hx, hb, hml, hown, hts⟩ (c_K_add3_a l D ci aE (ad 7) (kv_kb ci ad kc kh ks fo kl kp dy mt mv sw hv tk tn sc) kv_kb_is (mo + 1) (kv_rights 0 pa qp qm ql qv qc qe ++ [((q, .inr (2, [.int v0, .int v1, .int v2, .int v3, .int v4, .int v5])) : Nat × va_E)]) q 0 [.int v0, .int v1, .int v2, .int v3, .int v4, .int v5] hqM H.size) (cwV 3 hts gJx4a65c_add_9ea2d_Jx4a65c_add_72be8 rfl rfl rfl (by decide +kernel) ⟨Nat.le_of_ble_eq_true rfl, Nat.le_of_ble_eq_true rfl⟩) (kv_preVL hK hP hD hT hS hA (r := (RJx4a65c, TJx4a65c, 3)) (q0 := 7) (k := 0) rfl rfl (kv_B7 kv_kb_is)) rfl rfl hl.1 rfl (lv_room (Nat.le_of_ble_eq_true rfl)) dJx4a65c_add_9ea2d_20 ⟨Nat.le_of_ble_eq_true rfl, Nat.le_of_ble_eq_true rfl⟩) hD hS hA (fun u H locs _ hP hD hS => ?_)
    refine fin u H locs _ _ (Nat.le_refl _) (Nat.le_of_ble_eq_true rfl) ?_ ?_ hS
    · rw [kv_kw_kb, ← kv_rights_up]; rw [kv_els_0 (pa := pa), kv_els_up] at hP; exact hP
    · rw [kv_kw_kb, ← kv_rights_up]; rw [kv_els_0 (pa := pa), kv_els_up] at hD; exact hD
  · obtain ⟨k, rfl⟩ : ∃ k, n = k + 1 := ⟨n - 1, by omega⟩
    by_cases h10 : k + 1 = 10
    · obtain rfl : k = 9 := by omega
      refine kv_callv (va_runV (As := [.ref q, .ref aE, .int 10]) (rest := []) ⟨hx, hb, hml, hown, hts⟩ (c_K_add3_b l D ci aS (ad 7) (kv_kb ci ad kc kh ks fo kl kp dy mt mv sw hv tk tn sc) kv_kb_is (mo + 1) (kv_rights 10 pa qp qm ql qv qc qe ++ [((q, .inr (2, [.int v0, .int v1, .int v2, .int v3, .int v4, .int v5])) : Nat × va_E)]) aE (kv_els 10 pa) (fun i hi y hy => kv_M_el hi hy) q 10 [.int v0, .int v1, .int v2, .int v3, .int v4, .int v5] hqM H.size) (cwV 3 hts gJx4a65c_add_9ea2d_Jx4a65c_add_72be8 rfl rfl rfl (by decide +kernel) ⟨Nat.le_of_ble_eq_true rfl, Nat.le_of_ble_eq_true rfl⟩) (kv_preVL hK hP hD hT hS hA (r := (RJx4a65c, TJx4a65c, 3)) (q0 := 7) (k := 0) rfl rfl (kv_B7 kv_kb_is)) rfl rfl hl.1 rfl (lv_room (Nat.le_of_ble_eq_true rfl)) dJx4a65c_add_9ea2d_20 ⟨Nat.le_of_ble_eq_true rfl, Nat.le_of_ble_eq_true rfl⟩) hD hS hA (fun u H locs _ hP hD hS => ?_)
      refine fin u H locs _ _ (Nat.le_refl _) (Nat.le_of_ble_eq_true rfl) ?_ ?_ hS
      · rw [kv_kw_kb, ← kv_rights_up]; rw [kv_els_cpy, kv_els_up] at hP; exact hP
      · rw [kv_kw_kb, ← kv_rights_up]; rw [kv_els_cpy, kv_els_up] at hD; exact hD
    · have hcap := kv_cap_up (Nat.succ_pos k) h10
      have hlt : k + 1 < kv_cap (k + 1) := by unfold kv_cap; by_cases c : k + 1 ≤ 10 <;> simp only [c, if_true, if_false] <;> omega
      have hc100 : kv_cap (k + 1) < 100 := by unfold kv_cap; by_cases c : k + 1 ≤ 10 <;> simp only [c, if_true, if_false] <;> omega
      refine kv_callv (va_runV (As := [.ref q, .ref aE, .int (nI (k + 1))]) (rest := []) ⟨hx, hb, hml, hown, hts⟩ (c_K_add3_c l D ci aS (ad 7) (kv_kb ci ad kc kh ks fo kl kp dy mt mv sw hv tk tn sc) kv_kb_is (mo + 1) (kv_rights (k + 1) pa qp qm ql qv qc qe ++ [((q, .inr (2, [.int v0, .int v1, .int v2, .int v3, .int v4, .int v5])) : Nat × va_E)]) aE (k + 1) (kv_cap (k + 1)) (kv_els (k + 1) pa) hlt hc100 q (k + 1) [.int v0, .int v1, .int v2, .int v3, .int v4, .int v5] hqM H.size) (cwV 3 hts gJx4a65c_add_9ea2d_Jx4a65c_add_72be8 rfl rfl rfl (by decide +kernel) ⟨Nat.le_of_ble_eq_true rfl, Nat.le_of_ble_eq_true rfl⟩) (kv_preVL hK hP hD hT hS hA (r := (RJx4a65c, TJx4a65c, 3)) (q0 := 7) (k := 0) rfl rfl (kv_B7 kv_kb_is)) rfl rfl hl.1 rfl (lv_room (Nat.le_of_ble_eq_true rfl)) dJx4a65c_add_9ea2d_20 ⟨Nat.le_of_ble_eq_true rfl, Nat.le_of_ble_eq_true rfl⟩) hD hS hA (fun u H locs _ hP hD hS => ?_)
      refine fin aE H locs _ _ (Nat.le_of_ble_eq_true rfl) (Nat.le_of_ble_eq_true rfl) ?_ ?_ hS
      · rw [kv_kw_kb, ← kv_rights_up]; rw [kv_els_up, hcap] at hP; exact hP
      · rw [kv_kw_kb, ← kv_rights_up]; rw [kv_els_up, hcap] at hD; exact hD

theorem kv_last {X : va_W} {x : Nat × va_E} : (X ++ [x])[X.length]? = some x := by
  rw [List.getElem?_append_right (Nat.le_refl _), Nat.sub_self]; rfl
theorem kv_last_set {X : va_W} {x y : Nat × va_E} : (X ++ [x]).set X.length y = X ++ [y] := by
  rw [List.set_append_right _ _ (Nat.le_refl _), Nat.sub_self]; rfl

set_option maxHeartbeats 4000000 in
set_option maxRecDepth 100000 in
theorem c_K_Right (l : Launch) (D : va_G) (ci : Nat → Nat) (X : va_W) (q : Nat) (p0 p1 p2 p3 p4 : Int32) (sz : Nat) : Met l yX1_init wsX1_init ({ frames := 1, cells := 0, slots := 0, locals := 12 } : Room) (va_Pc [.ref q, .int p0, .int p1, .int p2, .int p3, .int p4] (kv_pre D ci (X ++ [((q, .inr (2, [.int 0, .int 0, .int 0, .int 0, .int 0, .int 0])) : Nat × va_E)]) sz)) (va_Qv (fun (_ : Unit) => True) (fun u t => kv_post D (X ++ [((q, .inr (2, [.int 0, .int 0, .int 0, .int 0, .int 0, .int 0])) : Nat × va_E)]) sz (X ++ [((q, .inr (2, [.int p0, .int p1, .int p4, .int p3, .int p2, .int 0])) : Nat × va_E)]) t) (va_A (X ++ [((q, .inr (2, [.int 0, .int 0, .int 0, .int 0, .int 0, .int 0])) : Nat × va_E)]) sz)) 0 0 (va_A (X ++ [((q, .inr (2, [.int 0, .int 0, .int 0, .int 0, .int 0, .int 0])) : Nat × va_E)]) sz) := by
  refine Met.ofW (cc := cX1_init) (maxL := 6) (ret := none) (by decide) rfl ?_
  intro p en s m args below meth c s₁ B hml hv
  obtain ⟨hv0, hsz, hP, hK, hD0⟩ := hv
  have hx := B.exec
  have hb := B.bytes
  have hr := B.returns
  have hts := atoms_spec (ws := wsX1_init) B.pre
  have hown : s.vm.findClass RX1 = some m.cls := findClass_of_methodNamed B.named
  have hlocks := B.notSynchronized
  have hin : meth.name = "<init>" := (name_of_methodNamed B.named B.method).1
  subst hsz
  have hD := hD0.self (sz := s.heap.size)
  generalize hAe : va_A (X ++ [((q, .inr (2, [.int 0, .int 0, .int 0, .int 0, .int 0, .int 0])) : Nat × va_E)]) s.heap.size = A at hD ⊢
  have hA : ∀ q : Nat, s.heap.size ≤ q → A q := fun q h => by rw [← hAe]; exact Or.inr h
  have hS : va_S A s.heap s.heap [] := va_S.rf
  have hP : va_P D vwCl (X ++ [((q, .inr (2, [.int 0, .int 0, .int 0, .int 0, .int 0, .int 0])) : Nat × va_E)]) s.heap := hP
  have hinRX1 : ∀ w ∈ u_ws RX1 TX1 6, w ∈ wsX1_init := by decide +kernel
  refine W.eq (show entryFrame m args 6 = _ from by rw [hv0, lg_entry_eq]) ?_
  have hl := lv_entry ([.ref q, .int p0, .int p1, .int p2, .int p3, .int p4]) (n := 6) (Nat.le_of_ble_eq_true rfl)
  generalize (lg_sl ([.ref q, .int p0, .int p1, .int p2, .int p3, .int p4]) ++ List.replicate (6 - (lg_sl ([.ref q, .int p0, .int p1, .int p2, .int p3, .int p4])).length) Slot.unset).toArray = ls at hl ⊢
  have hl : lv_has ls 6 [(0, .ref q), (1, .int p0), (2, .int p1), (3, .int p2), (4, .int p3), (5, .int p4)] := hl
  refine lv_aload_n hx hb dX1_init_0 rfl (lv_at hl 0 rfl) ?_
  refine W.objInit hx hb hown (hts (.methodLink RX1 1 objectInit) (by decide +kernel)) (hts (.instanceMethod objectInit) (by decide +kernel)) (hts (.code objectInit ⟨#[0xb1]⟩ 1 none) (by decide +kernel)) rfl (by rw [hml]; exact hl.1) rfl dX1_init_1 (Nat.le_of_ble_eq_true rfl) (Nat.le_of_ble_eq_true rfl) ?_
  refine W.eq (g2 := F0 m 4 ls []) rfl ?_
  refine lv_aload_n hx hb dX1_init_4 rfl (lv_at hl 0 rfl) ?_
  refine lv_iconst (v := 0) hx hb dX1_init_5 (by decide) ?_
  refine va_put (D := D) (ci := 2) (v := .int 0) (ty := .int) (C := RX1) (T := TX1) (N := 6) hx hb hts hinRX1 tyX1 tyX1_ok nmX1 hown hK hP hD hS X.length kv_last rfl 5 (by decide) (hts (.fieldLink RX1 7 "LicenceKeeper$Right" "lent" "I") (by decide +kernel)) (fun _ h9 => h9) rfl (by decide +kernel) rfl rfl (Nat.le_of_ble_eq_true rfl) dX1_init_6 (fun H locs hP hD hS => ?_)
  have hP : va_P D vwCl (X ++ [((q, .inr (2, [.int 0, .int 0, .int 0, .int 0, .int 0, .int 0])) : Nat × va_E)]) H := by rw [kv_last_set] at hP; exact hP
  have hD : va_D A (X ++ [((q, .inr (2, [.int 0, .int 0, .int 0, .int 0, .int 0, .int 0])) : Nat × va_E)]) := by rw [kv_last_set] at hD; exact hD
  refine lv_aload_n hx hb dX1_init_9 rfl (lv_at hl 0 rfl) ?_
  refine lv_iload_n hx hb dX1_init_10 rfl (lv_at hl 1 rfl) ?_
  refine va_putF (D := D) (ci := 2) (v := .int p0) (ty := .int) (C := RX1) (T := TX1) (N := 6) hx hb hts hinRX1 tyX1 tyX1_ok nmX1 hown hK hP hD hS X.length kv_last rfl 0 (by decide) (hts (.fieldLink RX1 13 "LicenceKeeper$Right" "product" "I") (by decide +kernel)) (fun _ h9 => h9) rfl hin rfl (by decide +kernel) rfl rfl (Nat.le_of_ble_eq_true rfl) dX1_init_11 (fun H locs hP hD hS => ?_)
  have hP : va_P D vwCl (X ++ [((q, .inr (2, [.int p0, .int 0, .int 0, .int 0, .int 0, .int 0])) : Nat × va_E)]) H := by rw [kv_last_set] at hP; exact hP
  have hD : va_D A (X ++ [((q, .inr (2, [.int p0, .int 0, .int 0, .int 0, .int 0, .int 0])) : Nat × va_E)]) := by rw [kv_last_set] at hD; exact hD
  refine lv_aload_n hx hb dX1_init_14 rfl (lv_at hl 0 rfl) ?_
  refine lv_iload_n hx hb dX1_init_15 rfl (lv_at hl 2 rfl) ?_
  refine va_putF (D := D) (ci := 2) (v := .int p1) (ty := .int) (C := RX1) (T := TX1) (N := 6) hx hb hts hinRX1 tyX1 tyX1_ok nmX1 hown hK hP hD hS X.length kv_last rfl 1 (by decide) (hts (.fieldLink RX1 16 "LicenceKeeper$Right" "measure" "I") (by decide +kernel)) (fun _ h9 => h9) rfl hin rfl (by decide +kernel) rfl rfl (Nat.le_of_ble_eq_true rfl) dX1_init_16 (fun H locs hP hD hS => ?_)
  have hP : va_P D vwCl (X ++ [((q, .inr (2, [.int p0, .int p1, .int 0, .int 0, .int 0, .int 0])) : Nat × va_E)]) H := by rw [kv_last_set] at hP; exact hP
  have hD : va_D A (X ++ [((q, .inr (2, [.int p0, .int p1, .int 0, .int 0, .int 0, .int 0])) : Nat × va_E)]) := by rw [kv_last_set] at hD; exact hD
  refine lv_aload_n hx hb dX1_init_19 rfl (lv_at hl 0 rfl) ?_
  refine lv_iload_n hx hb dX1_init_20 rfl (lv_at hl 3 rfl) ?_
  refine va_put (D := D) (ci := 2) (v := .int p2) (ty := .int) (C := RX1) (T := TX1) (N := 6) hx hb hts hinRX1 tyX1 tyX1_ok nmX1 hown hK hP hD hS X.length kv_last rfl 4 (by decide) (hts (.fieldLink RX1 19 "LicenceKeeper$Right" "count" "I") (by decide +kernel)) (fun _ h9 => h9) rfl (by decide +kernel) rfl rfl (Nat.le_of_ble_eq_true rfl) dX1_init_21 (fun H locs hP hD hS => ?_)
  have hP : va_P D vwCl (X ++ [((q, .inr (2, [.int p0, .int p1, .int 0, .int 0, .int p2, .int 0])) : Nat × va_E)]) H := by rw [kv_last_set] at hP; exact hP
  have hD : va_D A (X ++ [((q, .inr (2, [.int p0, .int p1, .int 0, .int 0, .int p2, .int 0])) : Nat × va_E)]) := by rw [kv_last_set] at hD; exact hD
  refine lv_aload_n hx hb dX1_init_24 rfl (lv_at hl 0 rfl) ?_
  refine lv_iload hx hb dX1_init_25 (lv_at hl 4 rfl) ?_
  refine va_put (D := D) (ci := 2) (v := .int p3) (ty := .int) (C := RX1) (T := TX1) (N := 6) hx hb hts hinRX1 tyX1 tyX1_ok nmX1 hown hK hP hD hS X.length kv_last rfl 3 (by decide) (hts (.fieldLink RX1 22 "LicenceKeeper$Right" "version" "I") (by decide +kernel)) (fun _ h9 => h9) rfl (by decide +kernel) rfl rfl (Nat.le_of_ble_eq_true rfl) dX1_init_27 (fun H locs hP hD hS => ?_)
  have hP : va_P D vwCl (X ++ [((q, .inr (2, [.int p0, .int p1, .int 0, .int p3, .int p2, .int 0])) : Nat × va_E)]) H := by rw [kv_last_set] at hP; exact hP
  have hD : va_D A (X ++ [((q, .inr (2, [.int p0, .int p1, .int 0, .int p3, .int p2, .int 0])) : Nat × va_E)]) := by rw [kv_last_set] at hD; exact hD
  refine lv_aload_n hx hb dX1_init_30 rfl (lv_at hl 0 rfl) ?_
  refine lv_iload hx hb dX1_init_31 (lv_at hl 5 rfl) ?_
  refine va_putF (D := D) (ci := 2) (v := .int p4) (ty := .int) (C := RX1) (T := TX1) (N := 6) hx hb hts hinRX1 tyX1 tyX1_ok nmX1 hown hK hP hD hS X.length kv_last rfl 2 (by decide) (hts (.fieldLink RX1 25 "LicenceKeeper$Right" "lastCareDay" "I") (by decide +kernel)) (fun _ h9 => h9) rfl hin rfl (by decide +kernel) rfl rfl (Nat.le_of_ble_eq_true rfl) dX1_init_33 (fun H locs hP hD hS => ?_)
  have hP : va_P D vwCl (X ++ [((q, .inr (2, [.int p0, .int p1, .int p4, .int p3, .int p2, .int 0])) : Nat × va_E)]) H := by rw [kv_last_set] at hP; exact hP
  have hD : va_D A (X ++ [((q, .inr (2, [.int p0, .int p1, .int p4, .int p3, .int p2, .int 0])) : Nat × va_E)]) := by rw [kv_last_set] at hD; exact hD
  exact W.vret hx hb hr (fun t ht hW => ⟨⟨(), rfl, trivial, ⟨by rw [ht]; exact hP, by rw [hAe]; exact hD⟩⟩, hS.F ht⟩) hS.2.2 dX1_init_36

def pf_X2_addRight (kl : Nat → Int32) (p0 : Int32) (p1 : Int32) (p2 : Int32) (p3 : Int32) (mo : Int32) (n : Nat) (qp : Nat → Int32) (qm : Nat → Int32) (ql : Nat → Int32) (qv : Nat → Int32) (qc : Nat → Int32) (qe : Nat → Int32) : Option (Int32 × Int32 × Nat × (Nat → Int32) × (Nat → Int32) × (Nat → Int32) × (Nat → Int32) × (Nat → Int32) × (Nat → Int32)) :=
  kv_G p0 4 (kv_T (kl p0.toNatClampNeg) (fun y => if n < 12 then some (nI (n + 1) - 1, mo + 1, n + 1, upd qp n p0, upd qm n p1, upd ql n p3, upd qv n y, upd qc n p2, upd qe n 0) else none))
abbrev rmX2_addRight : Room := { frames := 7, cells := 2, slots := 21, locals := 191 }
set_option maxHeartbeats 4000000 in
set_option maxRecDepth 100000 in
theorem c_X2_addRight (l : Launch) (D : va_G) (ci ad : Nat → Nat) (aS : Nat) (kc : Nat → Int32) (kh : Nat → Int32) (ks : Nat → Int32) (fo : Nat → Nat → Int32) (kl : Nat → Int32) (kp : Nat → Int32) (dy : Int32) (mo : Int32) (n : Nat) (pa : Nat → Nat) (aE : Nat) (qp : Nat → Int32) (qm : Nat → Int32) (ql : Nat → Int32) (qv : Nat → Int32) (qc : Nat → Int32) (qe : Nat → Int32) (mt : Nat → Int32) (mv : Nat → Int32) (sw : Nat → Int32) (hv : Int32) (tk : Nat → Int32) (tn : Nat → Int32) (sc : Nat → Int32) (p0 p1 p2 p3 : Int32) (hE : n = 0 → aE = aS) (hRn : pf_X2_addRight kl p0 p1 p2 p3 mo n qp qm ql qv qc qe ≠ none) (sz : Nat) : Met l yX2_addRight wsX2_addRight rmX2_addRight (va_Pc [.ref (ad 0), .int p0, .int p1, .int p2, .int p3] (kv_preL D ci aS (kv_kw ci ad kc kh ks fo kl kp dy mo n pa aE qp qm ql qv qc qe mt mv sw hv tk tn sc) sz)) (va_Qi (fun (r : Int32) (u : Int32 × Nat × (Nat → Int32) × (Nat → Int32) × (Nat → Int32) × (Nat → Int32) × (Nat → Int32) × (Nat → Int32) × (Nat → Nat) × Nat) => pf_X2_addRight kl p0 p1 p2 p3 mo n qp qm ql qv qc qe = some (r, u.1, u.2.1, u.2.2.1, u.2.2.2.1, u.2.2.2.2.1, u.2.2.2.2.2.1, u.2.2.2.2.2.2.1, u.2.2.2.2.2.2.2.1)) (fun u t => kv_post D (kv_kw ci ad kc kh ks fo kl kp dy mo n pa aE qp qm ql qv qc qe mt mv sw hv tk tn sc) sz (kv_kw ci ad kc kh ks fo kl kp dy u.1 u.2.1 u.2.2.2.2.2.2.2.2.1 u.2.2.2.2.2.2.2.2.2 u.2.2.1 u.2.2.2.1 u.2.2.2.2.1 u.2.2.2.2.2.1 u.2.2.2.2.2.2.1 u.2.2.2.2.2.2.2.1 mt mv sw hv tk tn sc) t) (va_A (kv_kw ci ad kc kh ks fo kl kp dy mo n pa aE qp qm ql qv qc qe mt mv sw hv tk tn sc) sz)) 2 21 (va_A (kv_kw ci ad kc kh ks fo kl kp dy mo n pa aE qp qm ql qv qc qe mt mv sw hv tk tn sc) sz) := by
  refine Met.ofW (cc := cX2_addRight) (maxL := 5) (ret := (some .int)) (by decide) rfl ?_
  intro p en s m args below meth c s₁ B hml hv
  obtain ⟨hv0, ⟨hsz, hP, hK, hD0⟩, hT⟩ := hv
  have hx := B.exec
  have hb := B.bytes
  have hr := B.returns
  have hts := atoms_spec (ws := wsX2_addRight) B.pre
  have hown : s.vm.findClass RX2 = some m.cls := findClass_of_methodNamed B.named
  have hlocks := B.notSynchronized
  subst hsz
  have hD := hD0.self (sz := s.heap.size)
  generalize hAe : va_A (kv_kw ci ad kc kh ks fo kl kp dy mo n pa aE qp qm ql qv qc qe mt mv sw hv tk tn sc) s.heap.size = A at hD hT ⊢
  have hA : ∀ q : Nat, s.heap.size ≤ q → A q := fun q h => by rw [← hAe]; exact Or.inr h
  have hS : va_S A s.heap s.heap [] := va_S.rf
  have hP : va_P D vwCl (kv_kw ci ad kc kh ks fo kl kp dy mo n pa aE qp qm ql qv qc qe mt mv sw hv tk tn sc) s.heap := hP
  have hinRX2 : ∀ w ∈ u_ws RX2 TX2 9, w ∈ wsX2_addRight := by decide +kernel
  have hinRX1 : ∀ w ∈ u_ws RX1 TX1 6, w ∈ wsX2_addRight := by decide +kernel
  refine W.eq (show entryFrame m args 5 = _ from by rw [hv0, lg_entry_eq]) ?_
  have hl := lv_entry ([.ref (ad 0), .int p0, .int p1, .int p2, .int p3]) (n := 5) (Nat.le_of_ble_eq_true rfl)
  generalize (lg_sl ([.ref (ad 0), .int p0, .int p1, .int p2, .int p3]) ++ List.replicate (5 - (lg_sl ([.ref (ad 0), .int p0, .int p1, .int p2, .int p3])).length) Slot.unset).toArray = ls at hl ⊢
  have hl : lv_has ls 5 [(0, .ref (ad 0)), (1, .int p0), (2, .int p1), (3, .int p2), (4, .int p3)] := hl
  generalize hRd : pf_X2_addRight kl p0 p1 p2 p3 mo n qp qm ql qv qc qe = Rz at hRn ⊢
  have e := hRd.symm
  rw [pf_X2_addRight] at e
  obtain ⟨hi, e⟩ := kv_G_e e hRn
  refine lv_aload_n hx hb dX2_addRight_0 rfl (lv_at hl 0 rfl) ?_
  refine va_get (D := D) (ci := 3) (v := .ref (ad 7)) (C := RX2) (T := TX2) (N := 9) hx hb hts hinRX2 hown hK hP 0 rfl rfl 6 (by decide) (hts (.fieldLink RX2 33 "LicenceKeeper" "held" "Ljava/util/ArrayList;") (by decide +kernel)) (fun _ h9 => h9) rfl dX2_addRight_1 ?_
  refine va_new (ci := 2) (fs := [.int 0, .int 0, .int 0, .int 0, .int 0, .int 0]) (C := RX1) (T := TX1) (N := 6) hx hb hts hinRX1 tyX1 tyX1_ok hown (hts (.classLink RX2 84 RX1) (by decide +kernel)) (hts (.instantiable RX1 6) (by decide +kernel)) (hts (.initialized RX1) (by decide +kernel)) hK hP hD hS hA rfl (fun j hj => by rcases (show j = 0 ∨ j = 1 ∨ j = 2 ∨ j = 3 ∨ j = 4 ∨ j = 5 by omega) with rfl | rfl | rfl | rfl | rfl | rfl <;> rfl) (Nat.le_of_ble_eq_true rfl) (Nat.le_of_ble_eq_true rfl) dX2_addRight_4 (fun q H hP hD hS => ?_)
  refine lv_dup hx hb dX2_addRight_7 rfl ?_
  refine lv_iload_n hx hb dX2_addRight_8 rfl (lv_at hl 1 rfl) ?_
  refine lv_iload_n hx hb dX2_addRight_9 rfl (lv_at hl 2 rfl) ?_
  refine lv_iload_n hx hb dX2_addRight_10 rfl (lv_at hl 3 rfl) ?_
  refine lv_aload_n hx hb dX2_addRight_11 rfl (lv_at hl 0 rfl) ?_
  refine va_get (D := D) (ci := 3) (v := .ref (ad 5)) (C := RX2) (T := TX2) (N := 9) hx hb hts hinRX2 hown hK hP 0 rfl rfl 4 (by decide) (hts (.fieldLink RX2 24 "LicenceKeeper" "latestVersions" "[I") (by decide +kernel)) (fun _ h9 => h9) rfl dX2_addRight_12 ?_
  refine lv_iload_n hx hb dX2_addRight_15 rfl (lv_at hl 1 rfl) ?_
  refine kv_iald hx hb hK hP 5 0 hi dX2_addRight_16 rfl rfl (fun y ey => ?_)
  have e := kv_T_e e ey
  refine lv_iload hx hb dX2_addRight_17 (lv_at hl 4 rfl) ?_
  have hn12 : n < 12 := by
    by_cases h : n < 12
    · exact h
    · rw [if_neg h] at e; exact absurd e hRn
  rw [if_pos hn12] at e
  refine kv_callv (va_runI (As := [.int p0, .int p1, .int p2, .int y, .int p3]) (rest := [.ref q, .ref (ad 7)]) ⟨hx, hb, hml, hown, hts⟩ (c_K_Right l D ci (kv_kw ci ad kc kh ks fo kl kp dy mo n pa aE qp qm ql qv qc qe mt mv sw hv tk tn sc) q p0 p1 p2 y p3 H.size) (cwI 5 hts gX2_addRight_X1_init rfl rfl rfl (hts (.initialized RX1) (by decide +kernel)) (hts (.methodLink RX2 199 yX1_init) (by decide +kernel)) (hts (.instanceMethod yX1_init) (by decide +kernel)) rfl (by decide +kernel) ⟨Nat.le_of_ble_eq_true rfl, Nat.le_of_ble_eq_true rfl⟩) (kv_preS hK hP hD) rfl rfl hl.1 rfl (lv_room (Nat.le_of_ble_eq_true rfl)) dX2_addRight_19 ⟨Nat.le_of_ble_eq_true rfl, Nat.le_of_ble_eq_true rfl⟩) hD hS hA (fun _ H locs _ hP hD hS => ?_)
  refine kv_calli (va_runV (As := [.ref q]) (rest := []) ⟨hx, hb, hml, hown, hts⟩ (c_K_add l D ci ad aS kc kh ks fo kl kp dy mo n pa aE qp qm ql qv qc qe mt mv sw hv tk tn sc q p0 p1 p3 y p2 0 hn12 hE H.size) (cwV 1 hts gX2_addRight_Jx4a65c_add_9ea2d rfl rfl rfl (by decide +kernel) ⟨Nat.le_of_ble_eq_true rfl, Nat.le_of_ble_eq_true rfl⟩) (kv_preVL hK hP hD hT hS hA (r := (RJx4a65c, TJx4a65c, 3)) (q0 := 7) (k := 0) rfl rfl rfl) rfl rfl hl.1 rfl (lv_room (Nat.le_of_ble_eq_true rfl)) dX2_addRight_22 ⟨Nat.le_of_ble_eq_true rfl, Nat.le_of_ble_eq_true rfl⟩) hD hS hA (fun _ u H locs _ hP hD hS => ?_)
  refine lv_pop hx hb dX2_addRight_25 rfl ?_
  refine lv_aload_n hx hb dX2_addRight_26 rfl (lv_at hl 0 rfl) ?_
  refine va_get (D := D) (ci := 3) (v := .ref (ad 7)) (C := RX2) (T := TX2) (N := 9) hx hb hts hinRX2 hown hK hP 0 rfl rfl 6 (by decide) (hts (.fieldLink RX2 33 "LicenceKeeper" "held" "Ljava/util/ArrayList;") (by decide +kernel)) (fun _ h9 => h9) rfl dX2_addRight_27 ?_
  refine kv_calli (va_runV (As := []) (rest := []) ⟨hx, hb, hml, hown, hts⟩ (c_K_size l D ci ad kc kh ks fo kl kp dy (mo + 1) (n + 1) (va_up pa n q) u (upd qp n p0) (upd qm n p1) (upd ql n p3) (upd qv n y) (upd qc n p2) (upd qe n 0) mt mv sw hv tk tn sc H.size) (cwV 0 hts gX2_addRight_Jx4a65c_size_8abf5 rfl rfl rfl (by decide +kernel) ⟨Nat.le_of_ble_eq_true rfl, Nat.le_of_ble_eq_true rfl⟩) (kv_preV hK hP hD (r := (RJx4a65c, TJx4a65c, 3)) (q0 := 7) (k := 0) rfl rfl rfl) rfl rfl hl.1 rfl (lv_room (Nat.le_of_ble_eq_true rfl)) dX2_addRight_30 ⟨Nat.le_of_ble_eq_true rfl, Nat.le_of_ble_eq_true rfl⟩) hD hS hA (fun r _ H locs hw hP hD hS => ?_)
  subst hw
  refine lv_iconst (v := 1) hx hb dX2_addRight_33 (by decide) ?_
  refine lv_isub hx hb dX2_addRight_34 ?_
  exact W.iret (v := nI (n + 1) - 1) hx hb hr (fun t ht hW => ⟨⟨nI (n + 1) - 1, (mo + 1, n + 1, upd qp n p0, upd qm n p1, upd ql n p3, upd qv n y, upd qc n p2, upd qe n 0, va_up pa n q, u), rfl, e, ⟨by rw [ht]; exact hP, by rw [hAe]; exact hD⟩⟩, hS.F ht⟩) hS.2.2 dX2_addRight_35
